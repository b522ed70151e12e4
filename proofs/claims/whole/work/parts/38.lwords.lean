-- the law: words, what the mathematics owes (printed by wip/whole/lawgen.py)
theorem wm_L_36 : Cond.methodLink RL 36 yX11_begin ∈ gtbl := gq_t 563 (by decide +kernel) (by decide +kernel)
theorem wi_X11_begin : Cond.instanceMethod yX11_begin ∈ gtbl := gq_t 564 (by decide +kernel) (by decide +kernel)
theorem we_X11_begin : Cond.selects RX11 yX11_begin yX11_begin ∈ gtbl := gq_t 565 (by decide +kernel) (by decide +kernel)
theorem wk_X11_begin : Cond.code yX11_begin cX11_begin 1 (some .int) ∈ gtbl := gq_t 566 (by decide +kernel) (by decide +kernel)
theorem mv_L_36 : MV RL 36 yX11_begin cX11_begin 1 (some .int) RX11 0 := ⟨⟨wm_L_36, wi_X11_begin, we_X11_begin, wz_X11, wk_X11_begin⟩, rfl, by decide +kernel, by decide +kernel, by decide +kernel⟩
theorem wm_L_40 : Cond.methodLink RL 40 yX12_begin ∈ gtbl := gq_t 1483 (by decide +kernel) (by decide +kernel)
theorem wi_X12_begin : Cond.instanceMethod yX12_begin ∈ gtbl := gq_t 1484 (by decide +kernel) (by decide +kernel)
theorem we_X12_begin : Cond.selects RX12 yX12_begin yX12_begin ∈ gtbl := gq_t 1485 (by decide +kernel) (by decide +kernel)
theorem wk_X12_begin : Cond.code yX12_begin cX12_begin 1 (some .int) ∈ gtbl := gq_t 1486 (by decide +kernel) (by decide +kernel)
theorem mv_L_40 : MV RL 40 yX12_begin cX12_begin 1 (some .int) RX12 0 := ⟨⟨wm_L_40, wi_X12_begin, we_X12_begin, wz_X12, wk_X12_begin⟩, rfl, by decide +kernel, by decide +kernel, by decide +kernel⟩
theorem wm_L_41 : Cond.methodLink RL 41 yX11_set ∈ gtbl := gq_t 581 (by decide +kernel) (by decide +kernel)
theorem wi_X11_set : Cond.instanceMethod yX11_set ∈ gtbl := gq_t 582 (by decide +kernel) (by decide +kernel)
theorem we_X11_set : Cond.selects RX11 yX11_set yX11_set ∈ gtbl := gq_t 583 (by decide +kernel) (by decide +kernel)
theorem wk_X11_set : Cond.code yX11_set cX11_set 6 (some .int) ∈ gtbl := gq_t 584 (by decide +kernel) (by decide +kernel)
theorem mv_L_41 : MV RL 41 yX11_set cX11_set 6 (some .int) RX11 3 := ⟨⟨wm_L_41, wi_X11_set, we_X11_set, wz_X11, wk_X11_set⟩, rfl, by decide +kernel, by decide +kernel, by decide +kernel⟩
theorem wm_L_44 : Cond.methodLink RL 44 yX12_set ∈ gtbl := gq_t 1487 (by decide +kernel) (by decide +kernel)
theorem wi_X12_set : Cond.instanceMethod yX12_set ∈ gtbl := gq_t 1488 (by decide +kernel) (by decide +kernel)
theorem we_X12_set : Cond.selects RX12 yX12_set yX12_set ∈ gtbl := gq_t 1489 (by decide +kernel) (by decide +kernel)
theorem wk_X12_set : Cond.code yX12_set cX12_set 5 (some .int) ∈ gtbl := gq_t 1490 (by decide +kernel) (by decide +kernel)
theorem mv_L_44 : MV RL 44 yX12_set cX12_set 5 (some .int) RX12 3 := ⟨⟨wm_L_44, wi_X12_set, we_X12_set, wz_X12, wk_X12_set⟩, rfl, by decide +kernel, by decide +kernel, by decide +kernel⟩
theorem wm_L_50 : Cond.methodLink RL 50 yX12_of ∈ gtbl := gq_t 1506 (by decide +kernel) (by decide +kernel)
theorem wi_X12_of : Cond.instanceMethod yX12_of ∈ gtbl := gq_t 1507 (by decide +kernel) (by decide +kernel)
theorem we_X12_of : Cond.selects RX12 yX12_of yX12_of ∈ gtbl := gq_t 1508 (by decide +kernel) (by decide +kernel)
theorem wk_X12_of : Cond.code yX12_of cX12_of 3 (some .int) ∈ gtbl := gq_t 1509 (by decide +kernel) (by decide +kernel)
theorem mv_L_50 : MV RL 50 yX12_of cX12_of 3 (some .int) RX12 2 := ⟨⟨wm_L_50, wi_X12_of, we_X12_of, wz_X12, wk_X12_of⟩, rfl, by decide +kernel, by decide +kernel, by decide +kernel⟩
theorem wm_L_51 : Cond.methodLink RL 51 yX12_thrown ∈ gtbl := gq_t 1368 (by decide +kernel) (by decide +kernel)
theorem wi_X12_thrown : Cond.instanceMethod yX12_thrown ∈ gtbl := gq_t 1369 (by decide +kernel) (by decide +kernel)
theorem we_X12_thrown : Cond.selects RX12 yX12_thrown yX12_thrown ∈ gtbl := gq_t 1370 (by decide +kernel) (by decide +kernel)
theorem wk_X12_thrown : Cond.code yX12_thrown cX12_thrown 1 (some .int) ∈ gtbl := gq_t 1371 (by decide +kernel) (by decide +kernel)
theorem mv_L_51 : MV RL 51 yX12_thrown cX12_thrown 1 (some .int) RX12 0 := ⟨⟨wm_L_51, wi_X12_thrown, we_X12_thrown, wz_X12, wk_X12_thrown⟩, rfl, by decide +kernel, by decide +kernel, by decide +kernel⟩
theorem wm_L_54 : Cond.methodLink RL 54 yX11_tide ∈ gtbl := gq_t 598 (by decide +kernel) (by decide +kernel)
theorem wi_X11_tide : Cond.instanceMethod yX11_tide ∈ gtbl := gq_t 599 (by decide +kernel) (by decide +kernel)
theorem we_X11_tide : Cond.selects RX11 yX11_tide yX11_tide ∈ gtbl := gq_t 600 (by decide +kernel) (by decide +kernel)
theorem wk_X11_tide : Cond.code yX11_tide cX11_tide 3 (some .int) ∈ gtbl := gq_t 601 (by decide +kernel) (by decide +kernel)
theorem mv_L_54 : MV RL 54 yX11_tide cX11_tide 3 (some .int) RX11 1 := ⟨⟨wm_L_54, wi_X11_tide, we_X11_tide, wz_X11, wk_X11_tide⟩, rfl, by decide +kernel, by decide +kernel, by decide +kernel⟩
theorem wm_L_57 : Cond.methodLink RL 57 yX12_tide ∈ gtbl := gq_t 1567 (by decide +kernel) (by decide +kernel)
theorem wi_X12_tide : Cond.instanceMethod yX12_tide ∈ gtbl := gq_t 1568 (by decide +kernel) (by decide +kernel)
theorem we_X12_tide : Cond.selects RX12 yX12_tide yX12_tide ∈ gtbl := gq_t 1569 (by decide +kernel) (by decide +kernel)
theorem wk_X12_tide : Cond.code yX12_tide cX12_tide 3 (some .int) ∈ gtbl := gq_t 1570 (by decide +kernel) (by decide +kernel)
theorem mv_L_57 : MV RL 57 yX12_tide cX12_tide 3 (some .int) RX12 1 := ⟨⟨wm_L_57, wi_X12_tide, we_X12_tide, wz_X12, wk_X12_tide⟩, rfl, by decide +kernel, by decide +kernel, by decide +kernel⟩
theorem wm_L_61 : Cond.methodLink RL 61 yX12_level ∈ gtbl := gq_t 1579 (by decide +kernel) (by decide +kernel)
theorem wi_X12_level : Cond.instanceMethod yX12_level ∈ gtbl := gq_t 1580 (by decide +kernel) (by decide +kernel)
theorem we_X12_level : Cond.selects RX12 yX12_level yX12_level ∈ gtbl := gq_t 1581 (by decide +kernel) (by decide +kernel)
theorem wk_X12_level : Cond.code yX12_level cX12_level 2 (some .int) ∈ gtbl := gq_t 1582 (by decide +kernel) (by decide +kernel)
theorem mv_L_61 : MV RL 61 yX12_level cX12_level 2 (some .int) RX12 1 := ⟨⟨wm_L_61, wi_X12_level, we_X12_level, wz_X12, wk_X12_level⟩, rfl, by decide +kernel, by decide +kernel, by decide +kernel⟩
theorem wm_L_62 : Cond.methodLink RL 62 yX11_comesBack ∈ gtbl := gq_t 616 (by decide +kernel) (by decide +kernel)
theorem wi_X11_comesBack : Cond.instanceMethod yX11_comesBack ∈ gtbl := gq_t 617 (by decide +kernel) (by decide +kernel)
theorem we_X11_comesBack : Cond.selects RX11 yX11_comesBack yX11_comesBack ∈ gtbl := gq_t 618 (by decide +kernel) (by decide +kernel)
theorem wk_X11_comesBack : Cond.code yX11_comesBack cX11_comesBack 2 (some .int) ∈ gtbl := gq_t 619 (by decide +kernel) (by decide +kernel)
theorem mv_L_62 : MV RL 62 yX11_comesBack cX11_comesBack 2 (some .int) RX11 1 := ⟨⟨wm_L_62, wi_X11_comesBack, we_X11_comesBack, wz_X11, wk_X11_comesBack⟩, rfl, by decide +kernel, by decide +kernel, by decide +kernel⟩
theorem wm_L_65 : Cond.methodLink RL 65 yX12_comesBack ∈ gtbl := gq_t 1588 (by decide +kernel) (by decide +kernel)
theorem wi_X12_comesBack : Cond.instanceMethod yX12_comesBack ∈ gtbl := gq_t 1589 (by decide +kernel) (by decide +kernel)
theorem we_X12_comesBack : Cond.selects RX12 yX12_comesBack yX12_comesBack ∈ gtbl := gq_t 1590 (by decide +kernel) (by decide +kernel)
theorem wk_X12_comesBack : Cond.code yX12_comesBack cX12_comesBack 2 (some .int) ∈ gtbl := gq_t 1591 (by decide +kernel) (by decide +kernel)
theorem mv_L_65 : MV RL 65 yX12_comesBack cX12_comesBack 2 (some .int) RX12 1 := ⟨⟨wm_L_65, wi_X12_comesBack, we_X12_comesBack, wz_X12, wk_X12_comesBack⟩, rfl, by decide +kernel, by decide +kernel, by decide +kernel⟩
theorem wm_L_66 : Cond.methodLink RL 66 yX11_window ∈ gtbl := gq_t 629 (by decide +kernel) (by decide +kernel)
theorem wi_X11_window : Cond.instanceMethod yX11_window ∈ gtbl := gq_t 630 (by decide +kernel) (by decide +kernel)
theorem we_X11_window : Cond.selects RX11 yX11_window yX11_window ∈ gtbl := gq_t 631 (by decide +kernel) (by decide +kernel)
theorem wk_X11_window : Cond.code yX11_window cX11_window 4 (some .int) ∈ gtbl := gq_t 632 (by decide +kernel) (by decide +kernel)
theorem mv_L_66 : MV RL 66 yX11_window cX11_window 4 (some .int) RX11 2 := ⟨⟨wm_L_66, wi_X11_window, we_X11_window, wz_X11, wk_X11_window⟩, rfl, by decide +kernel, by decide +kernel, by decide +kernel⟩
theorem wm_L_69 : Cond.methodLink RL 69 yX12_window ∈ gtbl := gq_t 1597 (by decide +kernel) (by decide +kernel)
theorem wi_X12_window : Cond.instanceMethod yX12_window ∈ gtbl := gq_t 1598 (by decide +kernel) (by decide +kernel)
theorem we_X12_window : Cond.selects RX12 yX12_window yX12_window ∈ gtbl := gq_t 1599 (by decide +kernel) (by decide +kernel)
theorem wk_X12_window : Cond.code yX12_window cX12_window 4 (some .int) ∈ gtbl := gq_t 1600 (by decide +kernel) (by decide +kernel)
theorem mv_L_69 : MV RL 69 yX12_window cX12_window 4 (some .int) RX12 2 := ⟨⟨wm_L_69, wi_X12_window, we_X12_window, wz_X12, wk_X12_window⟩, rfl, by decide +kernel, by decide +kernel, by decide +kernel⟩
theorem wm_L_70 : Cond.methodLink RL 70 yX11_old ∈ gtbl := gq_t 634 (by decide +kernel) (by decide +kernel)
theorem wi_X11_old : Cond.instanceMethod yX11_old ∈ gtbl := gq_t 635 (by decide +kernel) (by decide +kernel)
theorem we_X11_old : Cond.selects RX11 yX11_old yX11_old ∈ gtbl := gq_t 636 (by decide +kernel) (by decide +kernel)
theorem wk_X11_old : Cond.code yX11_old cX11_old 5 (some .int) ∈ gtbl := gq_t 637 (by decide +kernel) (by decide +kernel)
theorem mv_L_70 : MV RL 70 yX11_old cX11_old 5 (some .int) RX11 4 := ⟨⟨wm_L_70, wi_X11_old, we_X11_old, wz_X11, wk_X11_old⟩, rfl, by decide +kernel, by decide +kernel, by decide +kernel⟩
theorem wm_L_74 : Cond.methodLink RL 74 yX12_old ∈ gtbl := gq_t 1603 (by decide +kernel) (by decide +kernel)
theorem wi_X12_old : Cond.instanceMethod yX12_old ∈ gtbl := gq_t 1604 (by decide +kernel) (by decide +kernel)
theorem we_X12_old : Cond.selects RX12 yX12_old yX12_old ∈ gtbl := gq_t 1605 (by decide +kernel) (by decide +kernel)
theorem wk_X12_old : Cond.code yX12_old cX12_old 5 (some .int) ∈ gtbl := gq_t 1606 (by decide +kernel) (by decide +kernel)
theorem mv_L_74 : MV RL 74 yX12_old cX12_old 5 (some .int) RX12 4 := ⟨⟨wm_L_74, wi_X12_old, we_X12_old, wz_X12, wk_X12_old⟩, rfl, by decide +kernel, by decide +kernel, by decide +kernel⟩
theorem wm_L_75 : Cond.methodLink RL 75 yX11_map ∈ gtbl := gq_t 647 (by decide +kernel) (by decide +kernel)
theorem wi_X11_map : Cond.instanceMethod yX11_map ∈ gtbl := gq_t 648 (by decide +kernel) (by decide +kernel)
theorem we_X11_map : Cond.selects RX11 yX11_map yX11_map ∈ gtbl := gq_t 649 (by decide +kernel) (by decide +kernel)
theorem wk_X11_map : Cond.code yX11_map cX11_map 4 (some .int) ∈ gtbl := gq_t 650 (by decide +kernel) (by decide +kernel)
theorem mv_L_75 : MV RL 75 yX11_map cX11_map 4 (some .int) RX11 3 := ⟨⟨wm_L_75, wi_X11_map, we_X11_map, wz_X11, wk_X11_map⟩, rfl, by decide +kernel, by decide +kernel, by decide +kernel⟩
theorem wm_L_78 : Cond.methodLink RL 78 yX12_map ∈ gtbl := gq_t 1617 (by decide +kernel) (by decide +kernel)
theorem wi_X12_map : Cond.instanceMethod yX12_map ∈ gtbl := gq_t 1618 (by decide +kernel) (by decide +kernel)
theorem we_X12_map : Cond.selects RX12 yX12_map yX12_map ∈ gtbl := gq_t 1619 (by decide +kernel) (by decide +kernel)
theorem wk_X12_map : Cond.code yX12_map cX12_map 4 (some .int) ∈ gtbl := gq_t 1620 (by decide +kernel) (by decide +kernel)
theorem mv_L_78 : MV RL 78 yX12_map cX12_map 4 (some .int) RX12 3 := ⟨⟨wm_L_78, wi_X12_map, we_X12_map, wz_X12, wk_X12_map⟩, rfl, by decide +kernel, by decide +kernel, by decide +kernel⟩
theorem wm_L_79 : Cond.methodLink RL 79 yX11_cut ∈ gtbl := gq_t 659 (by decide +kernel) (by decide +kernel)
theorem wi_X11_cut : Cond.instanceMethod yX11_cut ∈ gtbl := gq_t 660 (by decide +kernel) (by decide +kernel)
theorem we_X11_cut : Cond.selects RX11 yX11_cut yX11_cut ∈ gtbl := gq_t 661 (by decide +kernel) (by decide +kernel)
theorem wk_X11_cut : Cond.code yX11_cut cX11_cut 6 (some .int) ∈ gtbl := gq_t 662 (by decide +kernel) (by decide +kernel)
theorem mv_L_79 : MV RL 79 yX11_cut cX11_cut 6 (some .int) RX11 1 := ⟨⟨wm_L_79, wi_X11_cut, we_X11_cut, wz_X11, wk_X11_cut⟩, rfl, by decide +kernel, by decide +kernel, by decide +kernel⟩
theorem wm_L_82 : Cond.methodLink RL 82 yX12_cut ∈ gtbl := gq_t 1625 (by decide +kernel) (by decide +kernel)
theorem wi_X12_cut : Cond.instanceMethod yX12_cut ∈ gtbl := gq_t 1626 (by decide +kernel) (by decide +kernel)
theorem we_X12_cut : Cond.selects RX12 yX12_cut yX12_cut ∈ gtbl := gq_t 1627 (by decide +kernel) (by decide +kernel)
theorem wk_X12_cut : Cond.code yX12_cut cX12_cut 4 (some .int) ∈ gtbl := gq_t 1628 (by decide +kernel) (by decide +kernel)
theorem mv_L_82 : MV RL 82 yX12_cut cX12_cut 4 (some .int) RX12 1 := ⟨⟨wm_L_82, wi_X12_cut, we_X12_cut, wz_X12, wk_X12_cut⟩, rfl, by decide +kernel, by decide +kernel, by decide +kernel⟩
theorem wm_L_83 : Cond.methodLink RL 83 yX11_mapOf ∈ gtbl := gq_t 667 (by decide +kernel) (by decide +kernel)
theorem wi_X11_mapOf : Cond.instanceMethod yX11_mapOf ∈ gtbl := gq_t 668 (by decide +kernel) (by decide +kernel)
theorem we_X11_mapOf : Cond.selects RX11 yX11_mapOf yX11_mapOf ∈ gtbl := gq_t 669 (by decide +kernel) (by decide +kernel)
theorem wk_X11_mapOf : Cond.code yX11_mapOf cX11_mapOf 5 (some .int) ∈ gtbl := gq_t 670 (by decide +kernel) (by decide +kernel)
theorem mv_L_83 : MV RL 83 yX11_mapOf cX11_mapOf 5 (some .int) RX11 3 := ⟨⟨wm_L_83, wi_X11_mapOf, we_X11_mapOf, wz_X11, wk_X11_mapOf⟩, rfl, by decide +kernel, by decide +kernel, by decide +kernel⟩
theorem wm_L_86 : Cond.methodLink RL 86 yX12_mapOf ∈ gtbl := gq_t 1633 (by decide +kernel) (by decide +kernel)
theorem wi_X12_mapOf : Cond.instanceMethod yX12_mapOf ∈ gtbl := gq_t 1634 (by decide +kernel) (by decide +kernel)
theorem we_X12_mapOf : Cond.selects RX12 yX12_mapOf yX12_mapOf ∈ gtbl := gq_t 1635 (by decide +kernel) (by decide +kernel)
theorem wk_X12_mapOf : Cond.code yX12_mapOf cX12_mapOf 5 (some .int) ∈ gtbl := gq_t 1636 (by decide +kernel) (by decide +kernel)
theorem mv_L_86 : MV RL 86 yX12_mapOf cX12_mapOf 5 (some .int) RX12 3 := ⟨⟨wm_L_86, wi_X12_mapOf, we_X12_mapOf, wz_X12, wk_X12_mapOf⟩, rfl, by decide +kernel, by decide +kernel, by decide +kernel⟩
theorem wm_L_87 : Cond.methodLink RL 87 yX11_route ∈ gtbl := gq_t 671 (by decide +kernel) (by decide +kernel)
theorem wi_X11_route : Cond.instanceMethod yX11_route ∈ gtbl := gq_t 672 (by decide +kernel) (by decide +kernel)
theorem we_X11_route : Cond.selects RX11 yX11_route yX11_route ∈ gtbl := gq_t 673 (by decide +kernel) (by decide +kernel)
theorem wk_X11_route : Cond.code yX11_route cX11_route 6 (some .int) ∈ gtbl := gq_t 674 (by decide +kernel) (by decide +kernel)
theorem mv_L_87 : MV RL 87 yX11_route cX11_route 6 (some .int) RX11 4 := ⟨⟨wm_L_87, wi_X11_route, we_X11_route, wz_X11, wk_X11_route⟩, rfl, by decide +kernel, by decide +kernel, by decide +kernel⟩
theorem wm_L_90 : Cond.methodLink RL 90 yX12_route ∈ gtbl := gq_t 1638 (by decide +kernel) (by decide +kernel)
theorem wi_X12_route : Cond.instanceMethod yX12_route ∈ gtbl := gq_t 1639 (by decide +kernel) (by decide +kernel)
theorem we_X12_route : Cond.selects RX12 yX12_route yX12_route ∈ gtbl := gq_t 1640 (by decide +kernel) (by decide +kernel)
theorem wk_X12_route : Cond.code yX12_route cX12_route 11 (some .int) ∈ gtbl := gq_t 1641 (by decide +kernel) (by decide +kernel)
theorem mv_L_90 : MV RL 90 yX12_route cX12_route 11 (some .int) RX12 4 := ⟨⟨wm_L_90, wi_X12_route, we_X12_route, wz_X12, wk_X12_route⟩, rfl, by decide +kernel, by decide +kernel, by decide +kernel⟩
theorem wm_L_91 : Cond.methodLink RL 91 yX11_way ∈ gtbl := gq_t 701 (by decide +kernel) (by decide +kernel)
theorem wi_X11_way : Cond.instanceMethod yX11_way ∈ gtbl := gq_t 702 (by decide +kernel) (by decide +kernel)
theorem we_X11_way : Cond.selects RX11 yX11_way yX11_way ∈ gtbl := gq_t 703 (by decide +kernel) (by decide +kernel)
theorem wk_X11_way : Cond.code yX11_way cX11_way 2 (some .int) ∈ gtbl := gq_t 704 (by decide +kernel) (by decide +kernel)
theorem mv_L_91 : MV RL 91 yX11_way cX11_way 2 (some .int) RX11 1 := ⟨⟨wm_L_91, wi_X11_way, we_X11_way, wz_X11, wk_X11_way⟩, rfl, by decide +kernel, by decide +kernel, by decide +kernel⟩
theorem wm_L_94 : Cond.methodLink RL 94 yX12_way ∈ gtbl := gq_t 1650 (by decide +kernel) (by decide +kernel)
theorem wi_X12_way : Cond.instanceMethod yX12_way ∈ gtbl := gq_t 1651 (by decide +kernel) (by decide +kernel)
theorem we_X12_way : Cond.selects RX12 yX12_way yX12_way ∈ gtbl := gq_t 1652 (by decide +kernel) (by decide +kernel)
theorem wk_X12_way : Cond.code yX12_way cX12_way 2 (some .int) ∈ gtbl := gq_t 1653 (by decide +kernel) (by decide +kernel)
theorem mv_L_94 : MV RL 94 yX12_way cX12_way 2 (some .int) RX12 1 := ⟨⟨wm_L_94, wi_X12_way, we_X12_way, wz_X12, wk_X12_way⟩, rfl, by decide +kernel, by decide +kernel, by decide +kernel⟩
theorem wm_L_95 : Cond.methodLink RL 95 yX11_take ∈ gtbl := gq_t 705 (by decide +kernel) (by decide +kernel)
theorem wi_X11_take : Cond.instanceMethod yX11_take ∈ gtbl := gq_t 706 (by decide +kernel) (by decide +kernel)
theorem we_X11_take : Cond.selects RX11 yX11_take yX11_take ∈ gtbl := gq_t 707 (by decide +kernel) (by decide +kernel)
theorem wk_X11_take : Cond.code yX11_take cX11_take 3 (some .int) ∈ gtbl := gq_t 708 (by decide +kernel) (by decide +kernel)
theorem mv_L_95 : MV RL 95 yX11_take cX11_take 3 (some .int) RX11 2 := ⟨⟨wm_L_95, wi_X11_take, we_X11_take, wz_X11, wk_X11_take⟩, rfl, by decide +kernel, by decide +kernel, by decide +kernel⟩
theorem wm_L_98 : Cond.methodLink RL 98 yX12_take ∈ gtbl := gq_t 1654 (by decide +kernel) (by decide +kernel)
theorem wi_X12_take : Cond.instanceMethod yX12_take ∈ gtbl := gq_t 1655 (by decide +kernel) (by decide +kernel)
theorem we_X12_take : Cond.selects RX12 yX12_take yX12_take ∈ gtbl := gq_t 1656 (by decide +kernel) (by decide +kernel)
theorem wk_X12_take : Cond.code yX12_take cX12_take 6 (some .int) ∈ gtbl := gq_t 1657 (by decide +kernel) (by decide +kernel)
theorem mv_L_98 : MV RL 98 yX12_take cX12_take 6 (some .int) RX12 2 := ⟨⟨wm_L_98, wi_X12_take, we_X12_take, wz_X12, wk_X12_take⟩, rfl, by decide +kernel, by decide +kernel, by decide +kernel⟩
theorem wm_L_102 : Cond.methodLink RL 102 yX12_lineOf ∈ gtbl := gq_t 1658 (by decide +kernel) (by decide +kernel)
theorem wi_X12_lineOf : Cond.instanceMethod yX12_lineOf ∈ gtbl := gq_t 1659 (by decide +kernel) (by decide +kernel)
theorem we_X12_lineOf : Cond.selects RX12 yX12_lineOf yX12_lineOf ∈ gtbl := gq_t 1660 (by decide +kernel) (by decide +kernel)
theorem wk_X12_lineOf : Cond.code yX12_lineOf cX12_lineOf 5 (some .int) ∈ gtbl := gq_t 1661 (by decide +kernel) (by decide +kernel)
theorem mv_L_102 : MV RL 102 yX12_lineOf cX12_lineOf 5 (some .int) RX12 3 := ⟨⟨wm_L_102, wi_X12_lineOf, we_X12_lineOf, wz_X12, wk_X12_lineOf⟩, rfl, by decide +kernel, by decide +kernel, by decide +kernel⟩
theorem wm_L_103 : Cond.methodLink RL 103 yX11_size ∈ gtbl := gq_t 721 (by decide +kernel) (by decide +kernel)
theorem wi_X11_size : Cond.instanceMethod yX11_size ∈ gtbl := gq_t 722 (by decide +kernel) (by decide +kernel)
theorem we_X11_size : Cond.selects RX11 yX11_size yX11_size ∈ gtbl := gq_t 723 (by decide +kernel) (by decide +kernel)
theorem wk_X11_size : Cond.code yX11_size cX11_size 2 (some .int) ∈ gtbl := gq_t 724 (by decide +kernel) (by decide +kernel)
theorem mv_L_103 : MV RL 103 yX11_size cX11_size 2 (some .int) RX11 1 := ⟨⟨wm_L_103, wi_X11_size, we_X11_size, wz_X11, wk_X11_size⟩, rfl, by decide +kernel, by decide +kernel, by decide +kernel⟩
theorem wm_L_106 : Cond.methodLink RL 106 yX12_size ∈ gtbl := gq_t 1671 (by decide +kernel) (by decide +kernel)
theorem wi_X12_size : Cond.instanceMethod yX12_size ∈ gtbl := gq_t 1672 (by decide +kernel) (by decide +kernel)
theorem we_X12_size : Cond.selects RX12 yX12_size yX12_size ∈ gtbl := gq_t 1673 (by decide +kernel) (by decide +kernel)
theorem wk_X12_size : Cond.code yX12_size cX12_size 2 (some .int) ∈ gtbl := gq_t 1674 (by decide +kernel) (by decide +kernel)
theorem mv_L_106 : MV RL 106 yX12_size cX12_size 2 (some .int) RX12 1 := ⟨⟨wm_L_106, wi_X12_size, we_X12_size, wz_X12, wk_X12_size⟩, rfl, by decide +kernel, by decide +kernel, by decide +kernel⟩
theorem wm_L_107 : Cond.methodLink RL 107 yX11_gangs ∈ gtbl := gq_t 729 (by decide +kernel) (by decide +kernel)
theorem wi_X11_gangs : Cond.instanceMethod yX11_gangs ∈ gtbl := gq_t 730 (by decide +kernel) (by decide +kernel)
theorem we_X11_gangs : Cond.selects RX11 yX11_gangs yX11_gangs ∈ gtbl := gq_t 731 (by decide +kernel) (by decide +kernel)
theorem wk_X11_gangs : Cond.code yX11_gangs cX11_gangs 4 (some .int) ∈ gtbl := gq_t 732 (by decide +kernel) (by decide +kernel)
theorem mv_L_107 : MV RL 107 yX11_gangs cX11_gangs 4 (some .int) RX11 2 := ⟨⟨wm_L_107, wi_X11_gangs, we_X11_gangs, wz_X11, wk_X11_gangs⟩, rfl, by decide +kernel, by decide +kernel, by decide +kernel⟩
theorem wm_L_110 : Cond.methodLink RL 110 yX12_gangs ∈ gtbl := gq_t 1675 (by decide +kernel) (by decide +kernel)
theorem wi_X12_gangs : Cond.instanceMethod yX12_gangs ∈ gtbl := gq_t 1676 (by decide +kernel) (by decide +kernel)
theorem we_X12_gangs : Cond.selects RX12 yX12_gangs yX12_gangs ∈ gtbl := gq_t 1677 (by decide +kernel) (by decide +kernel)
theorem wk_X12_gangs : Cond.code yX12_gangs cX12_gangs 4 (some .int) ∈ gtbl := gq_t 1678 (by decide +kernel) (by decide +kernel)
theorem mv_L_110 : MV RL 110 yX12_gangs cX12_gangs 4 (some .int) RX12 2 := ⟨⟨wm_L_110, wi_X12_gangs, we_X12_gangs, wz_X12, wk_X12_gangs⟩, rfl, by decide +kernel, by decide +kernel, by decide +kernel⟩
theorem wm_L_111 : Cond.methodLink RL 111 yX11_kiln ∈ gtbl := gq_t 733 (by decide +kernel) (by decide +kernel)
theorem wi_X11_kiln : Cond.instanceMethod yX11_kiln ∈ gtbl := gq_t 734 (by decide +kernel) (by decide +kernel)
theorem we_X11_kiln : Cond.selects RX11 yX11_kiln yX11_kiln ∈ gtbl := gq_t 735 (by decide +kernel) (by decide +kernel)
theorem wk_X11_kiln : Cond.code yX11_kiln cX11_kiln 3 (some .int) ∈ gtbl := gq_t 736 (by decide +kernel) (by decide +kernel)
theorem mv_L_111 : MV RL 111 yX11_kiln cX11_kiln 3 (some .int) RX11 1 := ⟨⟨wm_L_111, wi_X11_kiln, we_X11_kiln, wz_X11, wk_X11_kiln⟩, rfl, by decide +kernel, by decide +kernel, by decide +kernel⟩
theorem wm_L_114 : Cond.methodLink RL 114 yX12_kiln ∈ gtbl := gq_t 1680 (by decide +kernel) (by decide +kernel)
theorem wi_X12_kiln : Cond.instanceMethod yX12_kiln ∈ gtbl := gq_t 1681 (by decide +kernel) (by decide +kernel)
theorem we_X12_kiln : Cond.selects RX12 yX12_kiln yX12_kiln ∈ gtbl := gq_t 1682 (by decide +kernel) (by decide +kernel)
theorem wk_X12_kiln : Cond.code yX12_kiln cX12_kiln 3 (some .int) ∈ gtbl := gq_t 1683 (by decide +kernel) (by decide +kernel)
theorem mv_L_114 : MV RL 114 yX12_kiln cX12_kiln 3 (some .int) RX12 1 := ⟨⟨wm_L_114, wi_X12_kiln, we_X12_kiln, wz_X12, wk_X12_kiln⟩, rfl, by decide +kernel, by decide +kernel, by decide +kernel⟩
theorem wm_L_115 : Cond.methodLink RL 115 yX11_bad ∈ gtbl := gq_t 737 (by decide +kernel) (by decide +kernel)
theorem wi_X11_bad : Cond.instanceMethod yX11_bad ∈ gtbl := gq_t 738 (by decide +kernel) (by decide +kernel)
theorem we_X11_bad : Cond.selects RX11 yX11_bad yX11_bad ∈ gtbl := gq_t 739 (by decide +kernel) (by decide +kernel)
theorem wk_X11_bad : Cond.code yX11_bad cX11_bad 6 (some .int) ∈ gtbl := gq_t 740 (by decide +kernel) (by decide +kernel)
theorem mv_L_115 : MV RL 115 yX11_bad cX11_bad 6 (some .int) RX11 3 := ⟨⟨wm_L_115, wi_X11_bad, we_X11_bad, wz_X11, wk_X11_bad⟩, rfl, by decide +kernel, by decide +kernel, by decide +kernel⟩
theorem wm_L_119 : Cond.methodLink RL 119 yX12_bad ∈ gtbl := gq_t 1684 (by decide +kernel) (by decide +kernel)
theorem wi_X12_bad : Cond.instanceMethod yX12_bad ∈ gtbl := gq_t 1685 (by decide +kernel) (by decide +kernel)
theorem we_X12_bad : Cond.selects RX12 yX12_bad yX12_bad ∈ gtbl := gq_t 1686 (by decide +kernel) (by decide +kernel)
theorem wk_X12_bad : Cond.code yX12_bad cX12_bad 5 (some .int) ∈ gtbl := gq_t 1687 (by decide +kernel) (by decide +kernel)
theorem mv_L_119 : MV RL 119 yX12_bad cX12_bad 5 (some .int) RX12 3 := ⟨⟨wm_L_119, wi_X12_bad, we_X12_bad, wz_X12, wk_X12_bad⟩, rfl, by decide +kernel, by decide +kernel, by decide +kernel⟩
theorem wm_L_120 : Cond.methodLink RL 120 yX11_bears ∈ gtbl := gq_t 745 (by decide +kernel) (by decide +kernel)
theorem wi_X11_bears : Cond.instanceMethod yX11_bears ∈ gtbl := gq_t 746 (by decide +kernel) (by decide +kernel)
theorem we_X11_bears : Cond.selects RX11 yX11_bears yX11_bears ∈ gtbl := gq_t 747 (by decide +kernel) (by decide +kernel)
theorem wk_X11_bears : Cond.code yX11_bears cX11_bears 5 (some .int) ∈ gtbl := gq_t 748 (by decide +kernel) (by decide +kernel)
theorem mv_L_120 : MV RL 120 yX11_bears cX11_bears 5 (some .int) RX11 2 := ⟨⟨wm_L_120, wi_X11_bears, we_X11_bears, wz_X11, wk_X11_bears⟩, rfl, by decide +kernel, by decide +kernel, by decide +kernel⟩
theorem wm_L_123 : Cond.methodLink RL 123 yX12_bears ∈ gtbl := gq_t 1692 (by decide +kernel) (by decide +kernel)
theorem wi_X12_bears : Cond.instanceMethod yX12_bears ∈ gtbl := gq_t 1693 (by decide +kernel) (by decide +kernel)
theorem we_X12_bears : Cond.selects RX12 yX12_bears yX12_bears ∈ gtbl := gq_t 1694 (by decide +kernel) (by decide +kernel)
theorem wk_X12_bears : Cond.code yX12_bears cX12_bears 5 (some .int) ∈ gtbl := gq_t 1695 (by decide +kernel) (by decide +kernel)
theorem mv_L_123 : MV RL 123 yX12_bears cX12_bears 5 (some .int) RX12 2 := ⟨⟨wm_L_123, wi_X12_bears, we_X12_bears, wz_X12, wk_X12_bears⟩, rfl, by decide +kernel, by decide +kernel, by decide +kernel⟩
theorem wm_L_124 : Cond.methodLink RL 124 yX11_carries ∈ gtbl := gq_t 762 (by decide +kernel) (by decide +kernel)
theorem wi_X11_carries : Cond.instanceMethod yX11_carries ∈ gtbl := gq_t 763 (by decide +kernel) (by decide +kernel)
theorem we_X11_carries : Cond.selects RX11 yX11_carries yX11_carries ∈ gtbl := gq_t 764 (by decide +kernel) (by decide +kernel)
theorem wk_X11_carries : Cond.code yX11_carries cX11_carries 2 (some .int) ∈ gtbl := gq_t 765 (by decide +kernel) (by decide +kernel)
theorem mv_L_124 : MV RL 124 yX11_carries cX11_carries 2 (some .int) RX11 1 := ⟨⟨wm_L_124, wi_X11_carries, we_X11_carries, wz_X11, wk_X11_carries⟩, rfl, by decide +kernel, by decide +kernel, by decide +kernel⟩
theorem wm_L_127 : Cond.methodLink RL 127 yX12_carries ∈ gtbl := gq_t 1696 (by decide +kernel) (by decide +kernel)
theorem wi_X12_carries : Cond.instanceMethod yX12_carries ∈ gtbl := gq_t 1697 (by decide +kernel) (by decide +kernel)
theorem we_X12_carries : Cond.selects RX12 yX12_carries yX12_carries ∈ gtbl := gq_t 1698 (by decide +kernel) (by decide +kernel)
theorem wk_X12_carries : Cond.code yX12_carries cX12_carries 2 (some .int) ∈ gtbl := gq_t 1699 (by decide +kernel) (by decide +kernel)
theorem mv_L_127 : MV RL 127 yX12_carries cX12_carries 2 (some .int) RX12 1 := ⟨⟨wm_L_127, wi_X12_carries, we_X12_carries, wz_X12, wk_X12_carries⟩, rfl, by decide +kernel, by decide +kernel, by decide +kernel⟩
theorem wm_L_128 : Cond.methodLink RL 128 yX11_cross ∈ gtbl := gq_t 773 (by decide +kernel) (by decide +kernel)
theorem wi_X11_cross : Cond.instanceMethod yX11_cross ∈ gtbl := gq_t 774 (by decide +kernel) (by decide +kernel)
theorem we_X11_cross : Cond.selects RX11 yX11_cross yX11_cross ∈ gtbl := gq_t 775 (by decide +kernel) (by decide +kernel)
theorem wk_X11_cross : Cond.code yX11_cross cX11_cross 7 (some .int) ∈ gtbl := gq_t 776 (by decide +kernel) (by decide +kernel)
theorem mv_L_128 : MV RL 128 yX11_cross cX11_cross 7 (some .int) RX11 3 := ⟨⟨wm_L_128, wi_X11_cross, we_X11_cross, wz_X11, wk_X11_cross⟩, rfl, by decide +kernel, by decide +kernel, by decide +kernel⟩
theorem wm_L_131 : Cond.methodLink RL 131 yX12_cross ∈ gtbl := gq_t 1700 (by decide +kernel) (by decide +kernel)
theorem wi_X12_cross : Cond.instanceMethod yX12_cross ∈ gtbl := gq_t 1701 (by decide +kernel) (by decide +kernel)
theorem we_X12_cross : Cond.selects RX12 yX12_cross yX12_cross ∈ gtbl := gq_t 1702 (by decide +kernel) (by decide +kernel)
theorem wk_X12_cross : Cond.code yX12_cross cX12_cross 7 (some .int) ∈ gtbl := gq_t 1703 (by decide +kernel) (by decide +kernel)
theorem mv_L_131 : MV RL 131 yX12_cross cX12_cross 7 (some .int) RX12 3 := ⟨⟨wm_L_131, wi_X12_cross, we_X12_cross, wz_X12, wk_X12_cross⟩, rfl, by decide +kernel, by decide +kernel, by decide +kernel⟩
theorem wm_L_132 : Cond.methodLink RL 132 yX11_rain ∈ gtbl := gq_t 777 (by decide +kernel) (by decide +kernel)
theorem wi_X11_rain : Cond.instanceMethod yX11_rain ∈ gtbl := gq_t 778 (by decide +kernel) (by decide +kernel)
theorem we_X11_rain : Cond.selects RX11 yX11_rain yX11_rain ∈ gtbl := gq_t 779 (by decide +kernel) (by decide +kernel)
theorem wk_X11_rain : Cond.code yX11_rain cX11_rain 3 (some .int) ∈ gtbl := gq_t 780 (by decide +kernel) (by decide +kernel)
theorem mv_L_132 : MV RL 132 yX11_rain cX11_rain 3 (some .int) RX11 1 := ⟨⟨wm_L_132, wi_X11_rain, we_X11_rain, wz_X11, wk_X11_rain⟩, rfl, by decide +kernel, by decide +kernel, by decide +kernel⟩
theorem wm_L_135 : Cond.methodLink RL 135 yX12_rain ∈ gtbl := gq_t 1704 (by decide +kernel) (by decide +kernel)
theorem wi_X12_rain : Cond.instanceMethod yX12_rain ∈ gtbl := gq_t 1705 (by decide +kernel) (by decide +kernel)
theorem we_X12_rain : Cond.selects RX12 yX12_rain yX12_rain ∈ gtbl := gq_t 1706 (by decide +kernel) (by decide +kernel)
theorem wk_X12_rain : Cond.code yX12_rain cX12_rain 3 (some .int) ∈ gtbl := gq_t 1707 (by decide +kernel) (by decide +kernel)
theorem mv_L_135 : MV RL 135 yX12_rain cX12_rain 3 (some .int) RX12 1 := ⟨⟨wm_L_135, wi_X12_rain, we_X12_rain, wz_X12, wk_X12_rain⟩, rfl, by decide +kernel, by decide +kernel, by decide +kernel⟩
theorem wm_L_136 : Cond.methodLink RL 136 yX11_lift ∈ gtbl := gq_t 781 (by decide +kernel) (by decide +kernel)
theorem wi_X11_lift : Cond.instanceMethod yX11_lift ∈ gtbl := gq_t 782 (by decide +kernel) (by decide +kernel)
theorem we_X11_lift : Cond.selects RX11 yX11_lift yX11_lift ∈ gtbl := gq_t 783 (by decide +kernel) (by decide +kernel)
theorem wk_X11_lift : Cond.code yX11_lift cX11_lift 6 (some .int) ∈ gtbl := gq_t 784 (by decide +kernel) (by decide +kernel)
theorem mv_L_136 : MV RL 136 yX11_lift cX11_lift 6 (some .int) RX11 4 := ⟨⟨wm_L_136, wi_X11_lift, we_X11_lift, wz_X11, wk_X11_lift⟩, rfl, by decide +kernel, by decide +kernel, by decide +kernel⟩
theorem wm_L_139 : Cond.methodLink RL 139 yX12_lift ∈ gtbl := gq_t 1709 (by decide +kernel) (by decide +kernel)
theorem wi_X12_lift : Cond.instanceMethod yX12_lift ∈ gtbl := gq_t 1710 (by decide +kernel) (by decide +kernel)
theorem we_X12_lift : Cond.selects RX12 yX12_lift yX12_lift ∈ gtbl := gq_t 1711 (by decide +kernel) (by decide +kernel)
theorem wk_X12_lift : Cond.code yX12_lift cX12_lift 6 (some .int) ∈ gtbl := gq_t 1712 (by decide +kernel) (by decide +kernel)
theorem mv_L_139 : MV RL 139 yX12_lift cX12_lift 6 (some .int) RX12 4 := ⟨⟨wm_L_139, wi_X12_lift, we_X12_lift, wz_X12, wk_X12_lift⟩, rfl, by decide +kernel, by decide +kernel, by decide +kernel⟩
theorem wm_L_140 : Cond.methodLink RL 140 yX11_coal ∈ gtbl := gq_t 789 (by decide +kernel) (by decide +kernel)
theorem wi_X11_coal : Cond.instanceMethod yX11_coal ∈ gtbl := gq_t 790 (by decide +kernel) (by decide +kernel)
theorem we_X11_coal : Cond.selects RX11 yX11_coal yX11_coal ∈ gtbl := gq_t 791 (by decide +kernel) (by decide +kernel)
theorem wk_X11_coal : Cond.code yX11_coal cX11_coal 3 (some .int) ∈ gtbl := gq_t 792 (by decide +kernel) (by decide +kernel)
theorem mv_L_140 : MV RL 140 yX11_coal cX11_coal 3 (some .int) RX11 2 := ⟨⟨wm_L_140, wi_X11_coal, we_X11_coal, wz_X11, wk_X11_coal⟩, rfl, by decide +kernel, by decide +kernel, by decide +kernel⟩
theorem wm_L_143 : Cond.methodLink RL 143 yX12_coal ∈ gtbl := gq_t 1717 (by decide +kernel) (by decide +kernel)
theorem wi_X12_coal : Cond.instanceMethod yX12_coal ∈ gtbl := gq_t 1718 (by decide +kernel) (by decide +kernel)
theorem we_X12_coal : Cond.selects RX12 yX12_coal yX12_coal ∈ gtbl := gq_t 1719 (by decide +kernel) (by decide +kernel)
theorem wk_X12_coal : Cond.code yX12_coal cX12_coal 3 (some .int) ∈ gtbl := gq_t 1720 (by decide +kernel) (by decide +kernel)
theorem mv_L_143 : MV RL 143 yX12_coal cX12_coal 3 (some .int) RX12 2 := ⟨⟨wm_L_143, wi_X12_coal, we_X12_coal, wz_X12, wk_X12_coal⟩, rfl, by decide +kernel, by decide +kernel, by decide +kernel⟩
theorem wm_L_144 : Cond.methodLink RL 144 yX11_stop ∈ gtbl := gq_t 797 (by decide +kernel) (by decide +kernel)
theorem wi_X11_stop : Cond.instanceMethod yX11_stop ∈ gtbl := gq_t 798 (by decide +kernel) (by decide +kernel)
theorem we_X11_stop : Cond.selects RX11 yX11_stop yX11_stop ∈ gtbl := gq_t 799 (by decide +kernel) (by decide +kernel)
theorem wk_X11_stop : Cond.code yX11_stop cX11_stop 4 (some .int) ∈ gtbl := gq_t 800 (by decide +kernel) (by decide +kernel)
theorem mv_L_144 : MV RL 144 yX11_stop cX11_stop 4 (some .int) RX11 2 := ⟨⟨wm_L_144, wi_X11_stop, we_X11_stop, wz_X11, wk_X11_stop⟩, rfl, by decide +kernel, by decide +kernel, by decide +kernel⟩
theorem wm_L_148 : Cond.methodLink RL 148 yX12_stop ∈ gtbl := gq_t 1722 (by decide +kernel) (by decide +kernel)
theorem wi_X12_stop : Cond.instanceMethod yX12_stop ∈ gtbl := gq_t 1723 (by decide +kernel) (by decide +kernel)
theorem we_X12_stop : Cond.selects RX12 yX12_stop yX12_stop ∈ gtbl := gq_t 1724 (by decide +kernel) (by decide +kernel)
theorem wk_X12_stop : Cond.code yX12_stop cX12_stop 3 (some .int) ∈ gtbl := gq_t 1725 (by decide +kernel) (by decide +kernel)
theorem mv_L_148 : MV RL 148 yX12_stop cX12_stop 3 (some .int) RX12 2 := ⟨⟨wm_L_148, wi_X12_stop, we_X12_stop, wz_X12, wk_X12_stop⟩, rfl, by decide +kernel, by decide +kernel, by decide +kernel⟩
theorem wm_L_149 : Cond.methodLink RL 149 yX11_lasts ∈ gtbl := gq_t 801 (by decide +kernel) (by decide +kernel)
theorem wi_X11_lasts : Cond.instanceMethod yX11_lasts ∈ gtbl := gq_t 802 (by decide +kernel) (by decide +kernel)
theorem we_X11_lasts : Cond.selects RX11 yX11_lasts yX11_lasts ∈ gtbl := gq_t 803 (by decide +kernel) (by decide +kernel)
theorem wk_X11_lasts : Cond.code yX11_lasts cX11_lasts 5 (some .int) ∈ gtbl := gq_t 804 (by decide +kernel) (by decide +kernel)
theorem mv_L_149 : MV RL 149 yX11_lasts cX11_lasts 5 (some .int) RX11 2 := ⟨⟨wm_L_149, wi_X11_lasts, we_X11_lasts, wz_X11, wk_X11_lasts⟩, rfl, by decide +kernel, by decide +kernel, by decide +kernel⟩
theorem wm_L_152 : Cond.methodLink RL 152 yX12_lasts ∈ gtbl := gq_t 1726 (by decide +kernel) (by decide +kernel)
theorem wi_X12_lasts : Cond.instanceMethod yX12_lasts ∈ gtbl := gq_t 1727 (by decide +kernel) (by decide +kernel)
theorem we_X12_lasts : Cond.selects RX12 yX12_lasts yX12_lasts ∈ gtbl := gq_t 1728 (by decide +kernel) (by decide +kernel)
theorem wk_X12_lasts : Cond.code yX12_lasts cX12_lasts 4 (some .int) ∈ gtbl := gq_t 1729 (by decide +kernel) (by decide +kernel)
theorem mv_L_152 : MV RL 152 yX12_lasts cX12_lasts 4 (some .int) RX12 2 := ⟨⟨wm_L_152, wi_X12_lasts, we_X12_lasts, wz_X12, wk_X12_lasts⟩, rfl, by decide +kernel, by decide +kernel, by decide +kernel⟩
theorem wm_L_153 : Cond.methodLink RL 153 yX11_out ∈ gtbl := gq_t 826 (by decide +kernel) (by decide +kernel)
theorem wi_X11_out : Cond.instanceMethod yX11_out ∈ gtbl := gq_t 827 (by decide +kernel) (by decide +kernel)
theorem we_X11_out : Cond.selects RX11 yX11_out yX11_out ∈ gtbl := gq_t 828 (by decide +kernel) (by decide +kernel)
theorem wk_X11_out : Cond.code yX11_out cX11_out 6 (some .int) ∈ gtbl := gq_t 829 (by decide +kernel) (by decide +kernel)
theorem mv_L_153 : MV RL 153 yX11_out cX11_out 6 (some .int) RX11 4 := ⟨⟨wm_L_153, wi_X11_out, we_X11_out, wz_X11, wk_X11_out⟩, rfl, by decide +kernel, by decide +kernel, by decide +kernel⟩
theorem wm_L_156 : Cond.methodLink RL 156 yX12_out ∈ gtbl := gq_t 1730 (by decide +kernel) (by decide +kernel)
theorem wi_X12_out : Cond.instanceMethod yX12_out ∈ gtbl := gq_t 1731 (by decide +kernel) (by decide +kernel)
theorem we_X12_out : Cond.selects RX12 yX12_out yX12_out ∈ gtbl := gq_t 1732 (by decide +kernel) (by decide +kernel)
theorem wk_X12_out : Cond.code yX12_out cX12_out 9 (some .int) ∈ gtbl := gq_t 1733 (by decide +kernel) (by decide +kernel)
theorem mv_L_156 : MV RL 156 yX12_out cX12_out 9 (some .int) RX12 4 := ⟨⟨wm_L_156, wi_X12_out, we_X12_out, wz_X12, wk_X12_out⟩, rfl, by decide +kernel, by decide +kernel, by decide +kernel⟩
theorem wm_L_159 : Cond.methodLink RL 159 yX12_house ∈ gtbl := gq_t 1734 (by decide +kernel) (by decide +kernel)
theorem wi_X12_house : Cond.instanceMethod yX12_house ∈ gtbl := gq_t 1735 (by decide +kernel) (by decide +kernel)
theorem we_X12_house : Cond.selects RX12 yX12_house yX12_house ∈ gtbl := gq_t 1736 (by decide +kernel) (by decide +kernel)
theorem wk_X12_house : Cond.code yX12_house cX12_house 3 (some .int) ∈ gtbl := gq_t 1737 (by decide +kernel) (by decide +kernel)
theorem mv_L_159 : MV RL 159 yX12_house cX12_house 3 (some .int) RX12 2 := ⟨⟨wm_L_159, wi_X12_house, we_X12_house, wz_X12, wk_X12_house⟩, rfl, by decide +kernel, by decide +kernel, by decide +kernel⟩
theorem wm_L_160 : Cond.methodLink RL 160 yX11_hours ∈ gtbl := gq_t 834 (by decide +kernel) (by decide +kernel)
theorem wi_X11_hours : Cond.instanceMethod yX11_hours ∈ gtbl := gq_t 835 (by decide +kernel) (by decide +kernel)
theorem we_X11_hours : Cond.selects RX11 yX11_hours yX11_hours ∈ gtbl := gq_t 836 (by decide +kernel) (by decide +kernel)
theorem wk_X11_hours : Cond.code yX11_hours cX11_hours 4 (some .int) ∈ gtbl := gq_t 837 (by decide +kernel) (by decide +kernel)
theorem mv_L_160 : MV RL 160 yX11_hours cX11_hours 4 (some .int) RX11 1 := ⟨⟨wm_L_160, wi_X11_hours, we_X11_hours, wz_X11, wk_X11_hours⟩, rfl, by decide +kernel, by decide +kernel, by decide +kernel⟩
theorem wm_L_163 : Cond.methodLink RL 163 yX12_hours ∈ gtbl := gq_t 1738 (by decide +kernel) (by decide +kernel)
theorem wi_X12_hours : Cond.instanceMethod yX12_hours ∈ gtbl := gq_t 1739 (by decide +kernel) (by decide +kernel)
theorem we_X12_hours : Cond.selects RX12 yX12_hours yX12_hours ∈ gtbl := gq_t 1740 (by decide +kernel) (by decide +kernel)
theorem wk_X12_hours : Cond.code yX12_hours cX12_hours 3 (some .int) ∈ gtbl := gq_t 1741 (by decide +kernel) (by decide +kernel)
theorem mv_L_163 : MV RL 163 yX12_hours cX12_hours 3 (some .int) RX12 1 := ⟨⟨wm_L_163, wi_X12_hours, we_X12_hours, wz_X12, wk_X12_hours⟩, rfl, by decide +kernel, by decide +kernel, by decide +kernel⟩
theorem wm_L_164 : Cond.methodLink RL 164 yX11_bridge ∈ gtbl := gq_t 956 (by decide +kernel) (by decide +kernel)
theorem wi_X11_bridge : Cond.instanceMethod yX11_bridge ∈ gtbl := gq_t 957 (by decide +kernel) (by decide +kernel)
theorem we_X11_bridge : Cond.selects RX11 yX11_bridge yX11_bridge ∈ gtbl := gq_t 958 (by decide +kernel) (by decide +kernel)
theorem wk_X11_bridge : Cond.code yX11_bridge cX11_bridge 3 (some .int) ∈ gtbl := gq_t 959 (by decide +kernel) (by decide +kernel)
theorem mv_L_164 : MV RL 164 yX11_bridge cX11_bridge 3 (some .int) RX11 1 := ⟨⟨wm_L_164, wi_X11_bridge, we_X11_bridge, wz_X11, wk_X11_bridge⟩, rfl, by decide +kernel, by decide +kernel, by decide +kernel⟩
theorem wm_L_167 : Cond.methodLink RL 167 yX12_bridge ∈ gtbl := gq_t 1847 (by decide +kernel) (by decide +kernel)
theorem wi_X12_bridge : Cond.instanceMethod yX12_bridge ∈ gtbl := gq_t 1848 (by decide +kernel) (by decide +kernel)
theorem we_X12_bridge : Cond.selects RX12 yX12_bridge yX12_bridge ∈ gtbl := gq_t 1849 (by decide +kernel) (by decide +kernel)
theorem wk_X12_bridge : Cond.code yX12_bridge cX12_bridge 3 (some .int) ∈ gtbl := gq_t 1850 (by decide +kernel) (by decide +kernel)
theorem mv_L_167 : MV RL 167 yX12_bridge cX12_bridge 3 (some .int) RX12 1 := ⟨⟨wm_L_167, wi_X12_bridge, we_X12_bridge, wz_X12, wk_X12_bridge⟩, rfl, by decide +kernel, by decide +kernel, by decide +kernel⟩
theorem wm_L_168 : Cond.methodLink RL 168 yX11_cutOff ∈ gtbl := gq_t 960 (by decide +kernel) (by decide +kernel)
theorem wi_X11_cutOff : Cond.instanceMethod yX11_cutOff ∈ gtbl := gq_t 961 (by decide +kernel) (by decide +kernel)
theorem we_X11_cutOff : Cond.selects RX11 yX11_cutOff yX11_cutOff ∈ gtbl := gq_t 962 (by decide +kernel) (by decide +kernel)
theorem wk_X11_cutOff : Cond.code yX11_cutOff cX11_cutOff 1 (some .int) ∈ gtbl := gq_t 963 (by decide +kernel) (by decide +kernel)
theorem mv_L_168 : MV RL 168 yX11_cutOff cX11_cutOff 1 (some .int) RX11 0 := ⟨⟨wm_L_168, wi_X11_cutOff, we_X11_cutOff, wz_X11, wk_X11_cutOff⟩, rfl, by decide +kernel, by decide +kernel, by decide +kernel⟩
theorem wm_L_171 : Cond.methodLink RL 171 yX12_cutOff ∈ gtbl := gq_t 1851 (by decide +kernel) (by decide +kernel)
theorem wi_X12_cutOff : Cond.instanceMethod yX12_cutOff ∈ gtbl := gq_t 1852 (by decide +kernel) (by decide +kernel)
theorem we_X12_cutOff : Cond.selects RX12 yX12_cutOff yX12_cutOff ∈ gtbl := gq_t 1853 (by decide +kernel) (by decide +kernel)
theorem wk_X12_cutOff : Cond.code yX12_cutOff cX12_cutOff 5 (some .int) ∈ gtbl := gq_t 1854 (by decide +kernel) (by decide +kernel)
theorem mv_L_171 : MV RL 171 yX12_cutOff cX12_cutOff 5 (some .int) RX12 0 := ⟨⟨wm_L_171, wi_X12_cutOff, we_X12_cutOff, wz_X12, wk_X12_cutOff⟩, rfl, by decide +kernel, by decide +kernel, by decide +kernel⟩
theorem wm_L_172 : Cond.methodLink RL 172 yX11_law ∈ gtbl := gq_t 969 (by decide +kernel) (by decide +kernel)
theorem wi_X11_law : Cond.instanceMethod yX11_law ∈ gtbl := gq_t 970 (by decide +kernel) (by decide +kernel)
theorem we_X11_law : Cond.selects RX11 yX11_law yX11_law ∈ gtbl := gq_t 971 (by decide +kernel) (by decide +kernel)
theorem wk_X11_law : Cond.code yX11_law cX11_law 6 (some .int) ∈ gtbl := gq_t 972 (by decide +kernel) (by decide +kernel)
theorem mv_L_172 : MV RL 172 yX11_law cX11_law 6 (some .int) RX11 3 := ⟨⟨wm_L_172, wi_X11_law, we_X11_law, wz_X11, wk_X11_law⟩, rfl, by decide +kernel, by decide +kernel, by decide +kernel⟩
theorem wm_L_175 : Cond.methodLink RL 175 yX12_law ∈ gtbl := gq_t 1855 (by decide +kernel) (by decide +kernel)
theorem wi_X12_law : Cond.instanceMethod yX12_law ∈ gtbl := gq_t 1856 (by decide +kernel) (by decide +kernel)
theorem we_X12_law : Cond.selects RX12 yX12_law yX12_law ∈ gtbl := gq_t 1857 (by decide +kernel) (by decide +kernel)
theorem wk_X12_law : Cond.code yX12_law cX12_law 6 (some .int) ∈ gtbl := gq_t 1858 (by decide +kernel) (by decide +kernel)
theorem mv_L_175 : MV RL 175 yX12_law cX12_law 6 (some .int) RX12 3 := ⟨⟨wm_L_175, wi_X12_law, we_X12_law, wz_X12, wk_X12_law⟩, rfl, by decide +kernel, by decide +kernel, by decide +kernel⟩
theorem wm_L_176 : Cond.methodLink RL 176 yX11_inForce ∈ gtbl := gq_t 1102 (by decide +kernel) (by decide +kernel)
theorem wi_X11_inForce : Cond.instanceMethod yX11_inForce ∈ gtbl := gq_t 1103 (by decide +kernel) (by decide +kernel)
theorem we_X11_inForce : Cond.selects RX11 yX11_inForce yX11_inForce ∈ gtbl := gq_t 1104 (by decide +kernel) (by decide +kernel)
theorem wk_X11_inForce : Cond.code yX11_inForce cX11_inForce 4 (some .int) ∈ gtbl := gq_t 1105 (by decide +kernel) (by decide +kernel)
theorem mv_L_176 : MV RL 176 yX11_inForce cX11_inForce 4 (some .int) RX11 2 := ⟨⟨wm_L_176, wi_X11_inForce, we_X11_inForce, wz_X11, wk_X11_inForce⟩, rfl, by decide +kernel, by decide +kernel, by decide +kernel⟩
theorem wm_L_179 : Cond.methodLink RL 179 yX12_inForce ∈ gtbl := gq_t 1860 (by decide +kernel) (by decide +kernel)
theorem wi_X12_inForce : Cond.instanceMethod yX12_inForce ∈ gtbl := gq_t 1861 (by decide +kernel) (by decide +kernel)
theorem we_X12_inForce : Cond.selects RX12 yX12_inForce yX12_inForce ∈ gtbl := gq_t 1862 (by decide +kernel) (by decide +kernel)
theorem wk_X12_inForce : Cond.code yX12_inForce cX12_inForce 4 (some .int) ∈ gtbl := gq_t 1863 (by decide +kernel) (by decide +kernel)
theorem mv_L_179 : MV RL 179 yX12_inForce cX12_inForce 4 (some .int) RX12 2 := ⟨⟨wm_L_179, wi_X12_inForce, we_X12_inForce, wz_X12, wk_X12_inForce⟩, rfl, by decide +kernel, by decide +kernel, by decide +kernel⟩
theorem wm_L_180 : Cond.methodLink RL 180 yX11_holds ∈ gtbl := gq_t 1107 (by decide +kernel) (by decide +kernel)
theorem wi_X11_holds : Cond.instanceMethod yX11_holds ∈ gtbl := gq_t 1108 (by decide +kernel) (by decide +kernel)
theorem we_X11_holds : Cond.selects RX11 yX11_holds yX11_holds ∈ gtbl := gq_t 1109 (by decide +kernel) (by decide +kernel)
theorem wk_X11_holds : Cond.code yX11_holds cX11_holds 3 (some .int) ∈ gtbl := gq_t 1110 (by decide +kernel) (by decide +kernel)
theorem mv_L_180 : MV RL 180 yX11_holds cX11_holds 3 (some .int) RX11 2 := ⟨⟨wm_L_180, wi_X11_holds, we_X11_holds, wz_X11, wk_X11_holds⟩, rfl, by decide +kernel, by decide +kernel, by decide +kernel⟩
theorem wm_L_183 : Cond.methodLink RL 183 yX12_holds ∈ gtbl := gq_t 1864 (by decide +kernel) (by decide +kernel)
theorem wi_X12_holds : Cond.instanceMethod yX12_holds ∈ gtbl := gq_t 1865 (by decide +kernel) (by decide +kernel)
theorem we_X12_holds : Cond.selects RX12 yX12_holds yX12_holds ∈ gtbl := gq_t 1866 (by decide +kernel) (by decide +kernel)
theorem wk_X12_holds : Cond.code yX12_holds cX12_holds 3 (some .int) ∈ gtbl := gq_t 1867 (by decide +kernel) (by decide +kernel)
theorem mv_L_183 : MV RL 183 yX12_holds cX12_holds 3 (some .int) RX12 2 := ⟨⟨wm_L_183, wi_X12_holds, we_X12_holds, wz_X12, wk_X12_holds⟩, rfl, by decide +kernel, by decide +kernel, by decide +kernel⟩
theorem wm_L_184 : Cond.methodLink RL 184 yX11_best ∈ gtbl := gq_t 1112 (by decide +kernel) (by decide +kernel)
theorem wi_X11_best : Cond.instanceMethod yX11_best ∈ gtbl := gq_t 1113 (by decide +kernel) (by decide +kernel)
theorem we_X11_best : Cond.selects RX11 yX11_best yX11_best ∈ gtbl := gq_t 1114 (by decide +kernel) (by decide +kernel)
theorem wk_X11_best : Cond.code yX11_best cX11_best 3 (some .int) ∈ gtbl := gq_t 1115 (by decide +kernel) (by decide +kernel)
theorem mv_L_184 : MV RL 184 yX11_best cX11_best 3 (some .int) RX11 2 := ⟨⟨wm_L_184, wi_X11_best, we_X11_best, wz_X11, wk_X11_best⟩, rfl, by decide +kernel, by decide +kernel, by decide +kernel⟩
theorem wm_L_187 : Cond.methodLink RL 187 yX12_best ∈ gtbl := gq_t 1868 (by decide +kernel) (by decide +kernel)
theorem wi_X12_best : Cond.instanceMethod yX12_best ∈ gtbl := gq_t 1869 (by decide +kernel) (by decide +kernel)
theorem we_X12_best : Cond.selects RX12 yX12_best yX12_best ∈ gtbl := gq_t 1870 (by decide +kernel) (by decide +kernel)
theorem wk_X12_best : Cond.code yX12_best cX12_best 9 (some .int) ∈ gtbl := gq_t 1871 (by decide +kernel) (by decide +kernel)
theorem mv_L_187 : MV RL 187 yX12_best cX12_best 9 (some .int) RX12 2 := ⟨⟨wm_L_187, wi_X12_best, we_X12_best, wz_X12, wk_X12_best⟩, rfl, by decide +kernel, by decide +kernel, by decide +kernel⟩
theorem wm_L_188 : Cond.methodLink RL 188 yX11_judge ∈ gtbl := gq_t 1134 (by decide +kernel) (by decide +kernel)
theorem wi_X11_judge : Cond.instanceMethod yX11_judge ∈ gtbl := gq_t 1135 (by decide +kernel) (by decide +kernel)
theorem we_X11_judge : Cond.selects RX11 yX11_judge yX11_judge ∈ gtbl := gq_t 1136 (by decide +kernel) (by decide +kernel)
theorem wk_X11_judge : Cond.code yX11_judge cX11_judge 7 (some .int) ∈ gtbl := gq_t 1137 (by decide +kernel) (by decide +kernel)
theorem mv_L_188 : MV RL 188 yX11_judge cX11_judge 7 (some .int) RX11 2 := ⟨⟨wm_L_188, wi_X11_judge, we_X11_judge, wz_X11, wk_X11_judge⟩, rfl, by decide +kernel, by decide +kernel, by decide +kernel⟩
theorem wm_L_191 : Cond.methodLink RL 191 yX12_judge ∈ gtbl := gq_t 1885 (by decide +kernel) (by decide +kernel)
theorem wi_X12_judge : Cond.instanceMethod yX12_judge ∈ gtbl := gq_t 1886 (by decide +kernel) (by decide +kernel)
theorem we_X12_judge : Cond.selects RX12 yX12_judge yX12_judge ∈ gtbl := gq_t 1887 (by decide +kernel) (by decide +kernel)
theorem wk_X12_judge : Cond.code yX12_judge cX12_judge 5 (some .int) ∈ gtbl := gq_t 1888 (by decide +kernel) (by decide +kernel)
theorem mv_L_191 : MV RL 191 yX12_judge cX12_judge 5 (some .int) RX12 2 := ⟨⟨wm_L_191, wi_X12_judge, we_X12_judge, wz_X12, wk_X12_judge⟩, rfl, by decide +kernel, by decide +kernel, by decide +kernel⟩
theorem wm_L_192 : Cond.methodLink RL 192 yX11_share ∈ gtbl := gq_t 1138 (by decide +kernel) (by decide +kernel)
theorem wi_X11_share : Cond.instanceMethod yX11_share ∈ gtbl := gq_t 1139 (by decide +kernel) (by decide +kernel)
theorem we_X11_share : Cond.selects RX11 yX11_share yX11_share ∈ gtbl := gq_t 1140 (by decide +kernel) (by decide +kernel)
theorem wk_X11_share : Cond.code yX11_share cX11_share 15 (some .int) ∈ gtbl := gq_t 1141 (by decide +kernel) (by decide +kernel)
theorem mv_L_192 : MV RL 192 yX11_share cX11_share 15 (some .int) RX11 2 := ⟨⟨wm_L_192, wi_X11_share, we_X11_share, wz_X11, wk_X11_share⟩, rfl, by decide +kernel, by decide +kernel, by decide +kernel⟩
theorem wm_L_195 : Cond.methodLink RL 195 yX12_share ∈ gtbl := gq_t 1889 (by decide +kernel) (by decide +kernel)
theorem wi_X12_share : Cond.instanceMethod yX12_share ∈ gtbl := gq_t 1890 (by decide +kernel) (by decide +kernel)
theorem we_X12_share : Cond.selects RX12 yX12_share yX12_share ∈ gtbl := gq_t 1891 (by decide +kernel) (by decide +kernel)
theorem wk_X12_share : Cond.code yX12_share cX12_share 13 (some .int) ∈ gtbl := gq_t 1892 (by decide +kernel) (by decide +kernel)
theorem mv_L_195 : MV RL 195 yX12_share cX12_share 13 (some .int) RX12 2 := ⟨⟨wm_L_195, wi_X12_share, we_X12_share, wz_X12, wk_X12_share⟩, rfl, by decide +kernel, by decide +kernel, by decide +kernel⟩
theorem wm_L_196 : Cond.methodLink RL 196 yX11_tape ∈ gtbl := gq_t 1146 (by decide +kernel) (by decide +kernel)
theorem wi_X11_tape : Cond.instanceMethod yX11_tape ∈ gtbl := gq_t 1147 (by decide +kernel) (by decide +kernel)
theorem we_X11_tape : Cond.selects RX11 yX11_tape yX11_tape ∈ gtbl := gq_t 1148 (by decide +kernel) (by decide +kernel)
theorem wk_X11_tape : Cond.code yX11_tape cX11_tape 5 (some .int) ∈ gtbl := gq_t 1149 (by decide +kernel) (by decide +kernel)
theorem mv_L_196 : MV RL 196 yX11_tape cX11_tape 5 (some .int) RX11 3 := ⟨⟨wm_L_196, wi_X11_tape, we_X11_tape, wz_X11, wk_X11_tape⟩, rfl, by decide +kernel, by decide +kernel, by decide +kernel⟩
theorem wm_L_199 : Cond.methodLink RL 199 yX12_tape ∈ gtbl := gq_t 1897 (by decide +kernel) (by decide +kernel)
theorem wi_X12_tape : Cond.instanceMethod yX12_tape ∈ gtbl := gq_t 1898 (by decide +kernel) (by decide +kernel)
theorem we_X12_tape : Cond.selects RX12 yX12_tape yX12_tape ∈ gtbl := gq_t 1899 (by decide +kernel) (by decide +kernel)
theorem wk_X12_tape : Cond.code yX12_tape cX12_tape 5 (some .int) ∈ gtbl := gq_t 1900 (by decide +kernel) (by decide +kernel)
theorem mv_L_199 : MV RL 199 yX12_tape cX12_tape 5 (some .int) RX12 3 := ⟨⟨wm_L_199, wi_X12_tape, we_X12_tape, wz_X12, wk_X12_tape⟩, rfl, by decide +kernel, by decide +kernel, by decide +kernel⟩
theorem wm_L_200 : Cond.methodLink RL 200 yX11_keep ∈ gtbl := gq_t 1153 (by decide +kernel) (by decide +kernel)
theorem wi_X11_keep : Cond.instanceMethod yX11_keep ∈ gtbl := gq_t 1154 (by decide +kernel) (by decide +kernel)
theorem we_X11_keep : Cond.selects RX11 yX11_keep yX11_keep ∈ gtbl := gq_t 1155 (by decide +kernel) (by decide +kernel)
theorem wk_X11_keep : Cond.code yX11_keep cX11_keep 3 (some .int) ∈ gtbl := gq_t 1156 (by decide +kernel) (by decide +kernel)
theorem mv_L_200 : MV RL 200 yX11_keep cX11_keep 3 (some .int) RX11 1 := ⟨⟨wm_L_200, wi_X11_keep, we_X11_keep, wz_X11, wk_X11_keep⟩, rfl, by decide +kernel, by decide +kernel, by decide +kernel⟩
theorem wm_L_203 : Cond.methodLink RL 203 yX12_keep ∈ gtbl := gq_t 1904 (by decide +kernel) (by decide +kernel)
theorem wi_X12_keep : Cond.instanceMethod yX12_keep ∈ gtbl := gq_t 1905 (by decide +kernel) (by decide +kernel)
theorem we_X12_keep : Cond.selects RX12 yX12_keep yX12_keep ∈ gtbl := gq_t 1906 (by decide +kernel) (by decide +kernel)
theorem wk_X12_keep : Cond.code yX12_keep cX12_keep 3 (some .int) ∈ gtbl := gq_t 1907 (by decide +kernel) (by decide +kernel)
theorem mv_L_203 : MV RL 203 yX12_keep cX12_keep 3 (some .int) RX12 1 := ⟨⟨wm_L_203, wi_X12_keep, we_X12_keep, wz_X12, wk_X12_keep⟩, rfl, by decide +kernel, by decide +kernel, by decide +kernel⟩
theorem wm_L_204 : Cond.methodLink RL 204 yX11_back ∈ gtbl := gq_t 1185 (by decide +kernel) (by decide +kernel)
theorem wi_X11_back : Cond.instanceMethod yX11_back ∈ gtbl := gq_t 1186 (by decide +kernel) (by decide +kernel)
theorem we_X11_back : Cond.selects RX11 yX11_back yX11_back ∈ gtbl := gq_t 1187 (by decide +kernel) (by decide +kernel)
theorem wk_X11_back : Cond.code yX11_back cX11_back 3 (some .int) ∈ gtbl := gq_t 1188 (by decide +kernel) (by decide +kernel)
theorem mv_L_204 : MV RL 204 yX11_back cX11_back 3 (some .int) RX11 1 := ⟨⟨wm_L_204, wi_X11_back, we_X11_back, wz_X11, wk_X11_back⟩, rfl, by decide +kernel, by decide +kernel, by decide +kernel⟩
theorem wm_L_207 : Cond.methodLink RL 207 yX12_back ∈ gtbl := gq_t 1908 (by decide +kernel) (by decide +kernel)
theorem wi_X12_back : Cond.instanceMethod yX12_back ∈ gtbl := gq_t 1909 (by decide +kernel) (by decide +kernel)
theorem we_X12_back : Cond.selects RX12 yX12_back yX12_back ∈ gtbl := gq_t 1910 (by decide +kernel) (by decide +kernel)
theorem wk_X12_back : Cond.code yX12_back cX12_back 3 (some .int) ∈ gtbl := gq_t 1911 (by decide +kernel) (by decide +kernel)
theorem mv_L_207 : MV RL 207 yX12_back cX12_back 3 (some .int) RX12 1 := ⟨⟨wm_L_207, wi_X12_back, we_X12_back, wz_X12, wk_X12_back⟩, rfl, by decide +kernel, by decide +kernel, by decide +kernel⟩
theorem wm_L_208 : Cond.methodLink RL 208 yX11_toss ∈ gtbl := gq_t 1189 (by decide +kernel) (by decide +kernel)
theorem wi_X11_toss : Cond.instanceMethod yX11_toss ∈ gtbl := gq_t 1190 (by decide +kernel) (by decide +kernel)
theorem we_X11_toss : Cond.selects RX11 yX11_toss yX11_toss ∈ gtbl := gq_t 1191 (by decide +kernel) (by decide +kernel)
theorem wk_X11_toss : Cond.code yX11_toss cX11_toss 4 (some .int) ∈ gtbl := gq_t 1192 (by decide +kernel) (by decide +kernel)
theorem mv_L_208 : MV RL 208 yX11_toss cX11_toss 4 (some .int) RX11 1 := ⟨⟨wm_L_208, wi_X11_toss, we_X11_toss, wz_X11, wk_X11_toss⟩, rfl, by decide +kernel, by decide +kernel, by decide +kernel⟩
theorem wm_L_211 : Cond.methodLink RL 211 yX12_toss ∈ gtbl := gq_t 1912 (by decide +kernel) (by decide +kernel)
theorem wi_X12_toss : Cond.instanceMethod yX12_toss ∈ gtbl := gq_t 1913 (by decide +kernel) (by decide +kernel)
theorem we_X12_toss : Cond.selects RX12 yX12_toss yX12_toss ∈ gtbl := gq_t 1914 (by decide +kernel) (by decide +kernel)
theorem wk_X12_toss : Cond.code yX12_toss cX12_toss 4 (some .int) ∈ gtbl := gq_t 1915 (by decide +kernel) (by decide +kernel)
theorem mv_L_211 : MV RL 211 yX12_toss cX12_toss 4 (some .int) RX12 1 := ⟨⟨wm_L_211, wi_X12_toss, we_X12_toss, wz_X12, wk_X12_toss⟩, rfl, by decide +kernel, by decide +kernel, by decide +kernel⟩
theorem wm_L_212 : Cond.methodLink RL 212 yX11_clear ∈ gtbl := gq_t 1197 (by decide +kernel) (by decide +kernel)
theorem wi_X11_clear : Cond.instanceMethod yX11_clear ∈ gtbl := gq_t 1198 (by decide +kernel) (by decide +kernel)
theorem we_X11_clear : Cond.selects RX11 yX11_clear yX11_clear ∈ gtbl := gq_t 1199 (by decide +kernel) (by decide +kernel)
theorem wk_X11_clear : Cond.code yX11_clear cX11_clear 3 (some .int) ∈ gtbl := gq_t 1200 (by decide +kernel) (by decide +kernel)
theorem mv_L_212 : MV RL 212 yX11_clear cX11_clear 3 (some .int) RX11 1 := ⟨⟨wm_L_212, wi_X11_clear, we_X11_clear, wz_X11, wk_X11_clear⟩, rfl, by decide +kernel, by decide +kernel, by decide +kernel⟩
theorem wm_L_215 : Cond.methodLink RL 215 yX12_clear ∈ gtbl := gq_t 1916 (by decide +kernel) (by decide +kernel)
theorem wi_X12_clear : Cond.instanceMethod yX12_clear ∈ gtbl := gq_t 1917 (by decide +kernel) (by decide +kernel)
theorem we_X12_clear : Cond.selects RX12 yX12_clear yX12_clear ∈ gtbl := gq_t 1918 (by decide +kernel) (by decide +kernel)
theorem wk_X12_clear : Cond.code yX12_clear cX12_clear 3 (some .int) ∈ gtbl := gq_t 1919 (by decide +kernel) (by decide +kernel)
theorem mv_L_215 : MV RL 215 yX12_clear cX12_clear 3 (some .int) RX12 1 := ⟨⟨wm_L_215, wi_X12_clear, we_X12_clear, wz_X12, wk_X12_clear⟩, rfl, by decide +kernel, by decide +kernel, by decide +kernel⟩
theorem wl_L_216 : Cond.constantLong RL 216 (4294967295) ∈ gtbl := gq_t 1944 (by decide +kernel) (by decide +kernel)
theorem wm_L_218 : Cond.methodLink RL 218 yX11_put ∈ gtbl := gq_t 1201 (by decide +kernel) (by decide +kernel)
theorem wi_X11_put : Cond.instanceMethod yX11_put ∈ gtbl := gq_t 1202 (by decide +kernel) (by decide +kernel)
theorem we_X11_put : Cond.selects RX11 yX11_put yX11_put ∈ gtbl := gq_t 1203 (by decide +kernel) (by decide +kernel)
theorem wk_X11_put : Cond.code yX11_put cX11_put 6 (some .int) ∈ gtbl := gq_t 1204 (by decide +kernel) (by decide +kernel)
theorem mv_L_218 : MV RL 218 yX11_put cX11_put 6 (some .int) RX11 3 := ⟨⟨wm_L_218, wi_X11_put, we_X11_put, wz_X11, wk_X11_put⟩, rfl, by decide +kernel, by decide +kernel, by decide +kernel⟩
theorem wm_L_222 : Cond.methodLink RL 222 yX12_put ∈ gtbl := gq_t 1920 (by decide +kernel) (by decide +kernel)
theorem wi_X12_put : Cond.instanceMethod yX12_put ∈ gtbl := gq_t 1921 (by decide +kernel) (by decide +kernel)
theorem we_X12_put : Cond.selects RX12 yX12_put yX12_put ∈ gtbl := gq_t 1922 (by decide +kernel) (by decide +kernel)
theorem wk_X12_put : Cond.code yX12_put cX12_put 6 (some .int) ∈ gtbl := gq_t 1923 (by decide +kernel) (by decide +kernel)
theorem mv_L_222 : MV RL 222 yX12_put cX12_put 6 (some .int) RX12 3 := ⟨⟨wm_L_222, wi_X12_put, we_X12_put, wz_X12, wk_X12_put⟩, rfl, by decide +kernel, by decide +kernel, by decide +kernel⟩
theorem wm_L_225 : Cond.methodLink RL 225 yX12_at ∈ gtbl := gq_t 1924 (by decide +kernel) (by decide +kernel)
theorem wi_X12_at : Cond.instanceMethod yX12_at ∈ gtbl := gq_t 1925 (by decide +kernel) (by decide +kernel)
theorem we_X12_at : Cond.selects RX12 yX12_at yX12_at ∈ gtbl := gq_t 1926 (by decide +kernel) (by decide +kernel)
theorem wk_X12_at : Cond.code yX12_at cX12_at 3 (some .long) ∈ gtbl := gq_t 1927 (by decide +kernel) (by decide +kernel)
theorem mv_L_225 : MV RL 225 yX12_at cX12_at 3 (some .long) RX12 2 := ⟨⟨wm_L_225, wi_X12_at, we_X12_at, wz_X12, wk_X12_at⟩, rfl, by decide +kernel, by decide +kernel, by decide +kernel⟩
theorem wm_L_226 : Cond.methodLink RL 226 yX11_copy ∈ gtbl := gq_t 1209 (by decide +kernel) (by decide +kernel)
theorem wi_X11_copy : Cond.instanceMethod yX11_copy ∈ gtbl := gq_t 1210 (by decide +kernel) (by decide +kernel)
theorem we_X11_copy : Cond.selects RX11 yX11_copy yX11_copy ∈ gtbl := gq_t 1211 (by decide +kernel) (by decide +kernel)
theorem wk_X11_copy : Cond.code yX11_copy cX11_copy 8 (some .int) ∈ gtbl := gq_t 1212 (by decide +kernel) (by decide +kernel)
theorem mv_L_226 : MV RL 226 yX11_copy cX11_copy 8 (some .int) RX11 5 := ⟨⟨wm_L_226, wi_X11_copy, we_X11_copy, wz_X11, wk_X11_copy⟩, rfl, by decide +kernel, by decide +kernel, by decide +kernel⟩
theorem wm_L_230 : Cond.methodLink RL 230 yX12_copy ∈ gtbl := gq_t 1928 (by decide +kernel) (by decide +kernel)
theorem wi_X12_copy : Cond.instanceMethod yX12_copy ∈ gtbl := gq_t 1929 (by decide +kernel) (by decide +kernel)
theorem we_X12_copy : Cond.selects RX12 yX12_copy yX12_copy ∈ gtbl := gq_t 1930 (by decide +kernel) (by decide +kernel)
theorem wk_X12_copy : Cond.code yX12_copy cX12_copy 7 (some .int) ∈ gtbl := gq_t 1931 (by decide +kernel) (by decide +kernel)
theorem mv_L_230 : MV RL 230 yX12_copy cX12_copy 7 (some .int) RX12 5 := ⟨⟨wm_L_230, wi_X12_copy, we_X12_copy, wz_X12, wk_X12_copy⟩, rfl, by decide +kernel, by decide +kernel, by decide +kernel⟩
theorem wm_L_231 : Cond.methodLink RL 231 yX11_count ∈ gtbl := gq_t 1218 (by decide +kernel) (by decide +kernel)
theorem wi_X11_count : Cond.instanceMethod yX11_count ∈ gtbl := gq_t 1219 (by decide +kernel) (by decide +kernel)
theorem we_X11_count : Cond.selects RX11 yX11_count yX11_count ∈ gtbl := gq_t 1220 (by decide +kernel) (by decide +kernel)
theorem wk_X11_count : Cond.code yX11_count cX11_count 2 (some .int) ∈ gtbl := gq_t 1221 (by decide +kernel) (by decide +kernel)
theorem mv_L_231 : MV RL 231 yX11_count cX11_count 2 (some .int) RX11 1 := ⟨⟨wm_L_231, wi_X11_count, we_X11_count, wz_X11, wk_X11_count⟩, rfl, by decide +kernel, by decide +kernel, by decide +kernel⟩
theorem wm_L_234 : Cond.methodLink RL 234 yX12_count ∈ gtbl := gq_t 1932 (by decide +kernel) (by decide +kernel)
theorem wi_X12_count : Cond.instanceMethod yX12_count ∈ gtbl := gq_t 1933 (by decide +kernel) (by decide +kernel)
theorem we_X12_count : Cond.selects RX12 yX12_count yX12_count ∈ gtbl := gq_t 1934 (by decide +kernel) (by decide +kernel)
theorem wk_X12_count : Cond.code yX12_count cX12_count 2 (some .int) ∈ gtbl := gq_t 1935 (by decide +kernel) (by decide +kernel)
theorem mv_L_234 : MV RL 234 yX12_count cX12_count 2 (some .int) RX12 1 := ⟨⟨wm_L_234, wi_X12_count, we_X12_count, wz_X12, wk_X12_count⟩, rfl, by decide +kernel, by decide +kernel, by decide +kernel⟩
theorem mh_RL_45 : MH RL 45 yL_of cL_of 5 [(0, 10, 13, 13), (0, 10, 17, 15)] 4 := ⟨⟨gq (by decide +kernel) (by decide +kernel), gq (by decide +kernel) (by decide +kernel), gq (by decide +kernel) (by decide +kernel), gq (by decide +kernel) (by decide +kernel)⟩, by decide +kernel, by decide +kernel, by decide +kernel⟩
theorem mh_RL_58 : MH RL 58 yL_level cL_level 4 [(0, 9, 12, 13)] 3 := ⟨⟨gq (by decide +kernel) (by decide +kernel), gq (by decide +kernel) (by decide +kernel), gq (by decide +kernel) (by decide +kernel), gq (by decide +kernel) (by decide +kernel)⟩, by decide +kernel, by decide +kernel, by decide +kernel⟩
theorem mh_RL_99 : MH RL 99 yL_lineOf cL_lineOf 6 [(0, 12, 15, 13), (0, 12, 19, 15)] 5 := ⟨⟨gq (by decide +kernel) (by decide +kernel), gq (by decide +kernel) (by decide +kernel), gq (by decide +kernel) (by decide +kernel), gq (by decide +kernel) (by decide +kernel)⟩, by decide +kernel, by decide +kernel, by decide +kernel⟩
theorem mh_RL_157 : MH RL 157 yL_house cL_house 5 [(0, 10, 13, 13), (0, 10, 17, 15)] 4 := ⟨⟨gq (by decide +kernel) (by decide +kernel), gq (by decide +kernel) (by decide +kernel), gq (by decide +kernel) (by decide +kernel), gq (by decide +kernel) (by decide +kernel)⟩, by decide +kernel, by decide +kernel, by decide +kernel⟩
theorem mh_RL_223 : MH RL 223 yL_at cL_at 5 [(0, 9, 12, 13), (0, 9, 16, 15)] 4 := ⟨⟨gq (by decide +kernel) (by decide +kernel), gq (by decide +kernel) (by decide +kernel), gq (by decide +kernel) (by decide +kernel), gq (by decide +kernel) (by decide +kernel)⟩, by decide +kernel, by decide +kernel, by decide +kernel⟩
def LM_begin (I : Nat → Wd → Prop) : Prop := ∀ (n : Nat) (w : Wd), n < 512 → I n w → ∃ (r : Int32) (w1 w2 : Wd), fX11_begin w = some (r, w1) ∧ fX12_begin w1 = some (r, w2) ∧ I (n + 1) w2 ∧ FL w w1 ∧ FL w1 w2
def LM_set (I : Nat → Wd → Prop) : Prop := ∀ (n : Nat) (w : Wd) (v1 : Int32) (v2 : Int32) (v3 : Int32), n < 512 → I n w → ∃ (r : Int32) (w1 w2 : Wd), fX11_set v1 v2 v3 w = some (r, w1) ∧ fX12_set v1 v2 v3 w1 = some (r, w2) ∧ I (n + 1) w2 ∧ FL w w1 ∧ FL w1 w2
def LM_of (I : Nat → Wd → Prop) : Prop := ∀ (n : Nat) (w : Wd) (v1 : Int32) (v2 : Int32), n < 512 → I n w → ∃ (o : (Int32 ⊕ Bool) × Wd) (r : Int32) (w2 : Wd), fX11_of v1 v2 w = some o ∧ fX12_of v1 v2 (oI o).2 = some (r, w2) ∧ w2.1 148 0 = (oI o).1 ∧ (∀ x, o.1 = .inl x → w2.2 169 0 = x.toInt64 ∧ r = x) ∧ I (n + 1) w2 ∧ FL w w2
def LM_tide (I : Nat → Wd → Prop) : Prop := ∀ (n : Nat) (w : Wd) (v1 : Int32), n < 512 → I n w → ∃ (r : Int32) (w1 w2 : Wd), fX11_tide v1 w = some (r, w1) ∧ fX12_tide v1 w1 = some (r, w2) ∧ I (n + 1) w2 ∧ FL w w1 ∧ FL w1 w2
def LM_level (I : Nat → Wd → Prop) : Prop := ∀ (n : Nat) (w : Wd) (v1 : Int32), n < 512 → I n w → ∃ (o : (Int32 ⊕ Bool) × Wd) (r : Int32) (w2 : Wd), fX11_level v1 w = some o ∧ fX12_level v1 (oI o).2 = some (r, w2) ∧ w2.1 148 0 = (oI o).1 ∧ (∀ x, o.1 = .inl x → w2.2 169 0 = x.toInt64 ∧ r = x) ∧ I (n + 1) w2 ∧ FL w w2
def LM_comesBack (I : Nat → Wd → Prop) : Prop := ∀ (n : Nat) (w : Wd) (v1 : Int32), n < 512 → I n w → ∃ (r : Int32) (w2 : Wd), fX11_comesBack v1 w = some r ∧ fX12_comesBack v1 w = some (r, w2) ∧ I (n + 1) w2 ∧ FL w w2
def LM_window (I : Nat → Wd → Prop) : Prop := ∀ (n : Nat) (w : Wd) (v1 : Int32) (v2 : Int32), n < 512 → I n w → ∃ (r : Int32) (w2 : Wd), fX11_window v1 v2 w = some r ∧ fX12_window v1 v2 w = some (r, w2) ∧ I (n + 1) w2 ∧ FL w w2
def LM_old (I : Nat → Wd → Prop) : Prop := ∀ (n : Nat) (w : Wd) (v1 : Int32) (v2 : Int32) (v3 : Int32) (v4 : Int32), n < 512 → I n w → ∃ (r : Int32) (w1 w2 : Wd), fX11_old v1 v2 v3 v4 w = some (r, w1) ∧ fX12_old v1 v2 v3 v4 w1 = some (r, w2) ∧ I (n + 1) w2 ∧ FL w w1 ∧ FL w1 w2
def LM_map (I : Nat → Wd → Prop) : Prop := ∀ (n : Nat) (w : Wd) (v1 : Int32) (v2 : Int32) (v3 : Int32), n < 512 → I n w → ∃ (r : Int32) (w1 w2 : Wd), fX11_map v1 v2 v3 w = some (r, w1) ∧ fX12_map v1 v2 v3 w1 = some (r, w2) ∧ I (n + 1) w2 ∧ FL w w1 ∧ FL w1 w2
def LM_cut (I : Nat → Wd → Prop) : Prop := ∀ (n : Nat) (w : Wd) (v1 : Int32), n < 512 → I n w → ∃ (r : Int32) (w1 w2 : Wd), fX11_cut v1 w = some (r, w1) ∧ fX12_cut v1 w1 = some (r, w2) ∧ I (n + 1) w2 ∧ FL w w1 ∧ FL w1 w2
def LM_mapOf (I : Nat → Wd → Prop) : Prop := ∀ (n : Nat) (w : Wd) (v1 : Int32) (v2 : Int32) (v3 : Int32), n < 512 → I n w → ∃ (r : Int32) (w2 : Wd), fX11_mapOf v1 v2 v3 w = some r ∧ fX12_mapOf v1 v2 v3 w = some (r, w2) ∧ I (n + 1) w2 ∧ FL w w2
def LM_route (I : Nat → Wd → Prop) : Prop := ∀ (n : Nat) (w : Wd) (v1 : Int32) (v2 : Int32) (v3 : Int32) (v4 : Int32), n < 512 → I n w → ∃ (r : Int32) (w1 w2 : Wd), fX11_route v1 v2 v3 v4 w = some (r, w1) ∧ fX12_route v1 v2 v3 v4 w1 = some (r, w2) ∧ I (n + 1) w2 ∧ FL w w1 ∧ FL w1 w2
def LM_way (I : Nat → Wd → Prop) : Prop := ∀ (n : Nat) (w : Wd) (v1 : Int32), n < 512 → I n w → ∃ (r : Int32) (w2 : Wd), fX11_way v1 w = some r ∧ fX12_way v1 w = some (r, w2) ∧ I (n + 1) w2 ∧ FL w w2
def LM_take (I : Nat → Wd → Prop) : Prop := ∀ (n : Nat) (w : Wd) (v1 : Int32) (v2 : Int32), n < 512 → I n w → ∃ (r : Int32) (w1 w2 : Wd), fX11_take v1 v2 w = some (r, w1) ∧ fX12_take v1 v2 w1 = some (r, w2) ∧ I (n + 1) w2 ∧ FL w w1 ∧ FL w1 w2
def LM_lineOf (I : Nat → Wd → Prop) : Prop := ∀ (n : Nat) (w : Wd) (v1 : Int32) (v2 : Int32) (v3 : Int32), n < 512 → I n w → ∃ (o : (Int32 ⊕ Bool) × Wd) (r : Int32) (w2 : Wd), fX11_lineOf v1 v2 v3 w = some o ∧ fX12_lineOf v1 v2 v3 (oI o).2 = some (r, w2) ∧ w2.1 148 0 = (oI o).1 ∧ (∀ x, o.1 = .inl x → w2.2 169 0 = x.toInt64 ∧ r = x) ∧ I (n + 1) w2 ∧ FL w w2
def LM_size (I : Nat → Wd → Prop) : Prop := ∀ (n : Nat) (w : Wd) (v1 : Int32), n < 512 → I n w → ∃ (r : Int32) (w2 : Wd), fX11_size v1 w = some r ∧ fX12_size v1 w = some (r, w2) ∧ I (n + 1) w2 ∧ FL w w2
def LM_gangs (I : Nat → Wd → Prop) : Prop := ∀ (n : Nat) (w : Wd) (v1 : Int32) (v2 : Int32), n < 512 → I n w → ∃ (r : Int32) (w1 w2 : Wd), fX11_gangs v1 v2 w = some (r, w1) ∧ fX12_gangs v1 v2 w1 = some (r, w2) ∧ I (n + 1) w2 ∧ FL w w1 ∧ FL w1 w2
def LM_kiln (I : Nat → Wd → Prop) : Prop := ∀ (n : Nat) (w : Wd) (v1 : Int32), n < 512 → I n w → ∃ (r : Int32) (w1 w2 : Wd), fX11_kiln v1 w = some (r, w1) ∧ fX12_kiln v1 w1 = some (r, w2) ∧ I (n + 1) w2 ∧ FL w w1 ∧ FL w1 w2
def LM_bad (I : Nat → Wd → Prop) : Prop := ∀ (n : Nat) (w : Wd) (v1 : Int32) (v2 : Int32) (v3 : Int32), n < 512 → I n w → (v3 = 0 ∨ v3 = 1) → ∃ (r : Int32) (w1 w2 : Wd), fX11_bad v1 v2 v3 w = some (r, w1) ∧ fX12_bad v1 v2 v3 w1 = some (r, w2) ∧ I (n + 1) w2 ∧ FL w w1 ∧ FL w1 w2
def LM_bears (I : Nat → Wd → Prop) : Prop := ∀ (n : Nat) (w : Wd) (v1 : Int32) (v2 : Int32), n < 512 → I n w → ∃ (r : Int32) (w2 : Wd), fX11_bears v1 v2 w = some r ∧ fX12_bears v1 v2 w = some (r, w2) ∧ I (n + 1) w2 ∧ FL w w2
def LM_carries (I : Nat → Wd → Prop) : Prop := ∀ (n : Nat) (w : Wd) (v1 : Int32), n < 512 → I n w → ∃ (r : Int32) (w2 : Wd), fX11_carries v1 w = some r ∧ fX12_carries v1 w = some (r, w2) ∧ I (n + 1) w2 ∧ FL w w2
def LM_cross (I : Nat → Wd → Prop) : Prop := ∀ (n : Nat) (w : Wd) (v1 : Int32) (v2 : Int32) (v3 : Int32), n < 512 → I n w → ∃ (r : Int32) (w2 : Wd), fX11_cross v1 v2 v3 w = some r ∧ fX12_cross v1 v2 v3 w = some (r, w2) ∧ I (n + 1) w2 ∧ FL w w2
def LM_rain (I : Nat → Wd → Prop) : Prop := ∀ (n : Nat) (w : Wd) (v1 : Int32), n < 512 → I n w → ∃ (r : Int32) (w1 w2 : Wd), fX11_rain v1 w = some (r, w1) ∧ fX12_rain v1 w1 = some (r, w2) ∧ I (n + 1) w2 ∧ FL w w1 ∧ FL w1 w2
def LM_lift (I : Nat → Wd → Prop) : Prop := ∀ (n : Nat) (w : Wd) (v1 : Int32) (v2 : Int32) (v3 : Int32) (v4 : Int32), n < 512 → I n w → ∃ (r : Int32) (w1 w2 : Wd), fX11_lift v1 v2 v3 v4 w = some (r, w1) ∧ fX12_lift v1 v2 v3 v4 w1 = some (r, w2) ∧ I (n + 1) w2 ∧ FL w w1 ∧ FL w1 w2
def LM_coal (I : Nat → Wd → Prop) : Prop := ∀ (n : Nat) (w : Wd) (v1 : Int32) (v2 : Int32), n < 512 → I n w → ∃ (r : Int32) (w1 w2 : Wd), fX11_coal v1 v2 w = some (r, w1) ∧ fX12_coal v1 v2 w1 = some (r, w2) ∧ I (n + 1) w2 ∧ FL w w1 ∧ FL w1 w2
def LM_stop (I : Nat → Wd → Prop) : Prop := ∀ (n : Nat) (w : Wd) (v1 : Int32) (v2 : Int32), n < 512 → I n w → (v2 = 0 ∨ v2 = 1) → ∃ (r : Int32) (w1 w2 : Wd), fX11_stop v1 v2 w = some (r, w1) ∧ fX12_stop v1 v2 w1 = some (r, w2) ∧ I (n + 1) w2 ∧ FL w w1 ∧ FL w1 w2
def LM_lasts (I : Nat → Wd → Prop) : Prop := ∀ (n : Nat) (w : Wd) (v1 : Int32) (v2 : Int32), n < 512 → I n w → ∃ (r : Int32) (w1 w2 : Wd), fX11_lasts v1 v2 w = some (r, w1) ∧ fX12_lasts v1 v2 w1 = some (r, w2) ∧ I (n + 1) w2 ∧ FL w w1 ∧ FL w1 w2
def LM_out (I : Nat → Wd → Prop) : Prop := ∀ (n : Nat) (w : Wd) (v1 : Int32) (v2 : Int32) (v3 : Int32) (v4 : Int32), n < 512 → I n w → ∃ (r : Int32) (w1 w2 : Wd), fX11_out v1 v2 v3 v4 w = some (r, w1) ∧ fX12_out v1 v2 v3 v4 w1 = some (r, w2) ∧ I (n + 1) w2 ∧ FL w w1 ∧ FL w1 w2
def LM_house (I : Nat → Wd → Prop) : Prop := ∀ (n : Nat) (w : Wd) (v1 : Int32) (v2 : Int32), n < 512 → I n w → ∃ (o : (Int32 ⊕ Bool) × Wd) (r : Int32) (w2 : Wd), fX11_house v1 v2 w = some o ∧ fX12_house v1 v2 (oI o).2 = some (r, w2) ∧ w2.1 148 0 = (oI o).1 ∧ (∀ x, o.1 = .inl x → w2.2 169 0 = x.toInt64 ∧ r = x) ∧ I (n + 1) w2 ∧ FL w w2
def LM_hours (I : Nat → Wd → Prop) : Prop := ∀ (n : Nat) (w : Wd) (v1 : Int32), n < 512 → I n w → ∃ (r : Int32) (w1 w2 : Wd), fX11_hours v1 w = some (r, w1) ∧ fX12_hours v1 w1 = some (r, w2) ∧ I (n + 1) w2 ∧ FL w w1 ∧ FL w1 w2
def LM_bridge (I : Nat → Wd → Prop) : Prop := ∀ (n : Nat) (w : Wd) (v1 : Int32), n < 512 → I n w → ∃ (r : Int32) (w1 w2 : Wd), fX11_bridge v1 w = some (r, w1) ∧ fX12_bridge v1 w1 = some (r, w2) ∧ I (n + 1) w2 ∧ FL w w1 ∧ FL w1 w2
def LM_cutOff (I : Nat → Wd → Prop) : Prop := ∀ (n : Nat) (w : Wd), n < 512 → I n w → ∃ (r : Int32) (w1 w2 : Wd), fX11_cutOff w = some (r, w1) ∧ fX12_cutOff w1 = some (r, w2) ∧ I (n + 1) w2 ∧ FL w w1 ∧ FL w1 w2
def LM_law (I : Nat → Wd → Prop) : Prop := ∀ (n : Nat) (w : Wd) (v1 : Int32) (v2 : Int32) (v3 : Int32), n < 512 → I n w → ∃ (r : Int32) (w1 w2 : Wd), fX11_law v1 v2 v3 w = some (r, w1) ∧ fX12_law v1 v2 v3 w1 = some (r, w2) ∧ I (n + 1) w2 ∧ FL w w1 ∧ FL w1 w2
def LM_inForce (I : Nat → Wd → Prop) : Prop := ∀ (n : Nat) (w : Wd) (v1 : Int32) (v2 : Int32), n < 512 → I n w → ∃ (r : Int32) (w2 : Wd), fX11_inForce v1 v2 w = some r ∧ fX12_inForce v1 v2 w = some (r, w2) ∧ I (n + 1) w2 ∧ FL w w2
def LM_holds (I : Nat → Wd → Prop) : Prop := ∀ (n : Nat) (w : Wd) (v1 : Int32) (v2 : Int32), n < 512 → I n w → ∃ (r : Int32) (w1 w2 : Wd), fX11_holds v1 v2 w = some (r, w1) ∧ fX12_holds v1 v2 w1 = some (r, w2) ∧ I (n + 1) w2 ∧ FL w w1 ∧ FL w1 w2
def LM_best (I : Nat → Wd → Prop) : Prop := ∀ (n : Nat) (w : Wd) (v1 : Int32) (v2 : Int32), n < 512 → I n w → ∃ (r : Int32) (w1 w2 : Wd), fX11_best v1 v2 w = some (r, w1) ∧ fX12_best v1 v2 w1 = some (r, w2) ∧ I (n + 1) w2 ∧ FL w w1 ∧ FL w1 w2
def LM_judge (I : Nat → Wd → Prop) : Prop := ∀ (n : Nat) (w : Wd) (v1 : Int32) (v2 : Int32), n < 512 → I n w → ∃ (r : Int32) (w1 w2 : Wd), fX11_judge v1 v2 w = some (r, w1) ∧ fX12_judge v1 v2 w1 = some (r, w2) ∧ I (n + 1) w2 ∧ FL w w1 ∧ FL w1 w2
def LM_share (I : Nat → Wd → Prop) : Prop := ∀ (n : Nat) (w : Wd) (v1 : Int32) (v2 : Int32), n < 512 → I n w → ∃ (r : Int32) (w1 w2 : Wd), fX11_share v1 v2 w = some (r, w1) ∧ fX12_share v1 v2 w1 = some (r, w2) ∧ I (n + 1) w2 ∧ FL w w1 ∧ FL w1 w2
def LM_tape (I : Nat → Wd → Prop) : Prop := ∀ (n : Nat) (w : Wd) (v1 : Int32) (v2 : Int32) (v3 : Int32), n < 512 → I n w → ∃ (r : Int32) (w1 w2 : Wd), fX11_tape v1 v2 v3 w = some (r, w1) ∧ fX12_tape v1 v2 v3 w1 = some (r, w2) ∧ I (n + 1) w2 ∧ FL w w1 ∧ FL w1 w2
def LM_keep (I : Nat → Wd → Prop) : Prop := ∀ (n : Nat) (w : Wd) (v1 : Int32), n < 512 → I n w → ∃ (r : Int32) (w1 w2 : Wd), fX11_keep v1 w = some (r, w1) ∧ fX12_keep v1 w1 = some (r, w2) ∧ I (n + 1) w2 ∧ FL w1 w2
def LM_back (I : Nat → Wd → Prop) : Prop := ∀ (n : Nat) (w : Wd) (v1 : Int32), n < 512 → I n w → ∃ (r : Int32) (w1 w2 : Wd), fX11_back v1 w = some (r, w1) ∧ fX12_back v1 w1 = some (r, w2) ∧ I (n + 1) w2 ∧ FL w w1 ∧ FL w1 w2
def LM_toss (I : Nat → Wd → Prop) : Prop := ∀ (n : Nat) (w : Wd) (v1 : Int32), n < 512 → I n w → ∃ (r : Int32) (w1 w2 : Wd), fX11_toss v1 w = some (r, w1) ∧ fX12_toss v1 w1 = some (r, w2) ∧ I (n + 1) w2 ∧ FL w w1 ∧ FL w1 w2
def LM_clear (I : Nat → Wd → Prop) : Prop := ∀ (n : Nat) (w : Wd) (v1 : Int32), n < 512 → I n w → ∃ (r : Int32) (w1 w2 : Wd), fX11_clear v1 w = some (r, w1) ∧ fX12_clear v1 w1 = some (r, w2) ∧ I (n + 1) w2 ∧ FL w w1 ∧ FL w1 w2
def LM_put (I : Nat → Wd → Prop) : Prop := ∀ (n : Nat) (w : Wd) (v1 : Int32) (v2 : Int32) (v3 : Int64), n < 512 → I n w → ∃ (r : Int32) (w1 w2 : Wd), fX11_put v1 v2 v3 w = some (r, w1) ∧ fX12_put v1 v2 v3 w1 = some (r, w2) ∧ I (n + 1) w2 ∧ FL w w1 ∧ FL w1 w2
def LM_at (I : Nat → Wd → Prop) : Prop := ∀ (n : Nat) (w : Wd) (v1 : Int32) (v2 : Int32), n < 512 → I n w → ∃ (o : (Int64 ⊕ Bool) × Wd) (r : Int64) (w2 : Wd), fX11_at v1 v2 w = some o ∧ fX12_at v1 v2 (oJ o).2 = some (r, w2) ∧ w2.1 148 0 = (oJ o).1 ∧ (∀ x, o.1 = .inl x → w2.2 169 0 = x ∧ r = x) ∧ I (n + 1) w2 ∧ FL w w2
def LM_copy (I : Nat → Wd → Prop) : Prop := ∀ (n : Nat) (w : Wd) (v1 : Int32) (v2 : Int32) (v3 : Int32) (v4 : Int32) (v5 : Int32), n < 512 → I n w → ∃ (r : Int32) (w1 w2 : Wd), fX11_copy v1 v2 v3 v4 v5 w = some (r, w1) ∧ fX12_copy v1 v2 v3 v4 v5 w1 = some (r, w2) ∧ I (n + 1) w2 ∧ FL w w1 ∧ FL w1 w2
def LM_count (I : Nat → Wd → Prop) : Prop := ∀ (n : Nat) (w : Wd) (v1 : Int32), n < 512 → I n w → ∃ (r : Int32) (w2 : Wd), fX11_count v1 w = some r ∧ fX12_count v1 w = some (r, w2) ∧ I (n + 1) w2 ∧ FL w w2
def LMath (I : Nat → Wd → Prop) : Prop := LM_begin I ∧ LM_set I ∧ LM_of I ∧ LM_tide I ∧ LM_level I ∧ LM_comesBack I ∧ LM_window I ∧ LM_old I ∧ LM_map I ∧ LM_cut I ∧ LM_mapOf I ∧ LM_route I ∧ LM_way I ∧ LM_take I ∧ LM_lineOf I ∧ LM_size I ∧ LM_gangs I ∧ LM_kiln I ∧ LM_bad I ∧ LM_bears I ∧ LM_carries I ∧ LM_cross I ∧ LM_rain I ∧ LM_lift I ∧ LM_coal I ∧ LM_stop I ∧ LM_lasts I ∧ LM_out I ∧ LM_house I ∧ LM_hours I ∧ LM_bridge I ∧ LM_cutOff I ∧ LM_law I ∧ LM_inForce I ∧ LM_holds I ∧ LM_best I ∧ LM_judge I ∧ LM_share I ∧ LM_tape I ∧ LM_keep I ∧ LM_back I ∧ LM_toss I ∧ LM_clear I ∧ LM_put I ∧ LM_at I ∧ LM_copy I ∧ LM_count I
theorem lm_begin {I : Nat → Wd → Prop} (h : LMath I) : LM_begin I := h.1
theorem lm_set {I : Nat → Wd → Prop} (h : LMath I) : LM_set I := h.2.1
theorem lm_of {I : Nat → Wd → Prop} (h : LMath I) : LM_of I := h.2.2.1
theorem lm_tide {I : Nat → Wd → Prop} (h : LMath I) : LM_tide I := h.2.2.2.1
theorem lm_level {I : Nat → Wd → Prop} (h : LMath I) : LM_level I := h.2.2.2.2.1
theorem lm_comesBack {I : Nat → Wd → Prop} (h : LMath I) : LM_comesBack I := h.2.2.2.2.2.1
theorem lm_window {I : Nat → Wd → Prop} (h : LMath I) : LM_window I := h.2.2.2.2.2.2.1
theorem lm_old {I : Nat → Wd → Prop} (h : LMath I) : LM_old I := h.2.2.2.2.2.2.2.1
theorem lm_map {I : Nat → Wd → Prop} (h : LMath I) : LM_map I := h.2.2.2.2.2.2.2.2.1
theorem lm_cut {I : Nat → Wd → Prop} (h : LMath I) : LM_cut I := h.2.2.2.2.2.2.2.2.2.1
theorem lm_mapOf {I : Nat → Wd → Prop} (h : LMath I) : LM_mapOf I := h.2.2.2.2.2.2.2.2.2.2.1
theorem lm_route {I : Nat → Wd → Prop} (h : LMath I) : LM_route I := h.2.2.2.2.2.2.2.2.2.2.2.1
theorem lm_way {I : Nat → Wd → Prop} (h : LMath I) : LM_way I := h.2.2.2.2.2.2.2.2.2.2.2.2.1
theorem lm_take {I : Nat → Wd → Prop} (h : LMath I) : LM_take I := h.2.2.2.2.2.2.2.2.2.2.2.2.2.1
theorem lm_lineOf {I : Nat → Wd → Prop} (h : LMath I) : LM_lineOf I := h.2.2.2.2.2.2.2.2.2.2.2.2.2.2.1
theorem lm_size {I : Nat → Wd → Prop} (h : LMath I) : LM_size I := h.2.2.2.2.2.2.2.2.2.2.2.2.2.2.2.1
theorem lm_gangs {I : Nat → Wd → Prop} (h : LMath I) : LM_gangs I := h.2.2.2.2.2.2.2.2.2.2.2.2.2.2.2.2.1
theorem lm_kiln {I : Nat → Wd → Prop} (h : LMath I) : LM_kiln I := h.2.2.2.2.2.2.2.2.2.2.2.2.2.2.2.2.2.1
theorem lm_bad {I : Nat → Wd → Prop} (h : LMath I) : LM_bad I := h.2.2.2.2.2.2.2.2.2.2.2.2.2.2.2.2.2.2.1
theorem lm_bears {I : Nat → Wd → Prop} (h : LMath I) : LM_bears I := h.2.2.2.2.2.2.2.2.2.2.2.2.2.2.2.2.2.2.2.1
theorem lm_carries {I : Nat → Wd → Prop} (h : LMath I) : LM_carries I := h.2.2.2.2.2.2.2.2.2.2.2.2.2.2.2.2.2.2.2.2.1
theorem lm_cross {I : Nat → Wd → Prop} (h : LMath I) : LM_cross I := h.2.2.2.2.2.2.2.2.2.2.2.2.2.2.2.2.2.2.2.2.2.1
theorem lm_rain {I : Nat → Wd → Prop} (h : LMath I) : LM_rain I := h.2.2.2.2.2.2.2.2.2.2.2.2.2.2.2.2.2.2.2.2.2.2.1
theorem lm_lift {I : Nat → Wd → Prop} (h : LMath I) : LM_lift I := h.2.2.2.2.2.2.2.2.2.2.2.2.2.2.2.2.2.2.2.2.2.2.2.1
theorem lm_coal {I : Nat → Wd → Prop} (h : LMath I) : LM_coal I := h.2.2.2.2.2.2.2.2.2.2.2.2.2.2.2.2.2.2.2.2.2.2.2.2.1
theorem lm_stop {I : Nat → Wd → Prop} (h : LMath I) : LM_stop I := h.2.2.2.2.2.2.2.2.2.2.2.2.2.2.2.2.2.2.2.2.2.2.2.2.2.1
theorem lm_lasts {I : Nat → Wd → Prop} (h : LMath I) : LM_lasts I := h.2.2.2.2.2.2.2.2.2.2.2.2.2.2.2.2.2.2.2.2.2.2.2.2.2.2.1
theorem lm_out {I : Nat → Wd → Prop} (h : LMath I) : LM_out I := h.2.2.2.2.2.2.2.2.2.2.2.2.2.2.2.2.2.2.2.2.2.2.2.2.2.2.2.1
theorem lm_house {I : Nat → Wd → Prop} (h : LMath I) : LM_house I := h.2.2.2.2.2.2.2.2.2.2.2.2.2.2.2.2.2.2.2.2.2.2.2.2.2.2.2.2.1
theorem lm_hours {I : Nat → Wd → Prop} (h : LMath I) : LM_hours I := h.2.2.2.2.2.2.2.2.2.2.2.2.2.2.2.2.2.2.2.2.2.2.2.2.2.2.2.2.2.1
theorem lm_bridge {I : Nat → Wd → Prop} (h : LMath I) : LM_bridge I := h.2.2.2.2.2.2.2.2.2.2.2.2.2.2.2.2.2.2.2.2.2.2.2.2.2.2.2.2.2.2.1
theorem lm_cutOff {I : Nat → Wd → Prop} (h : LMath I) : LM_cutOff I := h.2.2.2.2.2.2.2.2.2.2.2.2.2.2.2.2.2.2.2.2.2.2.2.2.2.2.2.2.2.2.2.1
theorem lm_law {I : Nat → Wd → Prop} (h : LMath I) : LM_law I := h.2.2.2.2.2.2.2.2.2.2.2.2.2.2.2.2.2.2.2.2.2.2.2.2.2.2.2.2.2.2.2.2.1
theorem lm_inForce {I : Nat → Wd → Prop} (h : LMath I) : LM_inForce I := h.2.2.2.2.2.2.2.2.2.2.2.2.2.2.2.2.2.2.2.2.2.2.2.2.2.2.2.2.2.2.2.2.2.1
theorem lm_holds {I : Nat → Wd → Prop} (h : LMath I) : LM_holds I := h.2.2.2.2.2.2.2.2.2.2.2.2.2.2.2.2.2.2.2.2.2.2.2.2.2.2.2.2.2.2.2.2.2.2.1
theorem lm_best {I : Nat → Wd → Prop} (h : LMath I) : LM_best I := h.2.2.2.2.2.2.2.2.2.2.2.2.2.2.2.2.2.2.2.2.2.2.2.2.2.2.2.2.2.2.2.2.2.2.2.1
theorem lm_judge {I : Nat → Wd → Prop} (h : LMath I) : LM_judge I := h.2.2.2.2.2.2.2.2.2.2.2.2.2.2.2.2.2.2.2.2.2.2.2.2.2.2.2.2.2.2.2.2.2.2.2.2.1
theorem lm_share {I : Nat → Wd → Prop} (h : LMath I) : LM_share I := h.2.2.2.2.2.2.2.2.2.2.2.2.2.2.2.2.2.2.2.2.2.2.2.2.2.2.2.2.2.2.2.2.2.2.2.2.2.1
theorem lm_tape {I : Nat → Wd → Prop} (h : LMath I) : LM_tape I := h.2.2.2.2.2.2.2.2.2.2.2.2.2.2.2.2.2.2.2.2.2.2.2.2.2.2.2.2.2.2.2.2.2.2.2.2.2.2.1
theorem lm_keep {I : Nat → Wd → Prop} (h : LMath I) : LM_keep I := h.2.2.2.2.2.2.2.2.2.2.2.2.2.2.2.2.2.2.2.2.2.2.2.2.2.2.2.2.2.2.2.2.2.2.2.2.2.2.2.1
theorem lm_back {I : Nat → Wd → Prop} (h : LMath I) : LM_back I := h.2.2.2.2.2.2.2.2.2.2.2.2.2.2.2.2.2.2.2.2.2.2.2.2.2.2.2.2.2.2.2.2.2.2.2.2.2.2.2.2.1
theorem lm_toss {I : Nat → Wd → Prop} (h : LMath I) : LM_toss I := h.2.2.2.2.2.2.2.2.2.2.2.2.2.2.2.2.2.2.2.2.2.2.2.2.2.2.2.2.2.2.2.2.2.2.2.2.2.2.2.2.2.1
theorem lm_clear {I : Nat → Wd → Prop} (h : LMath I) : LM_clear I := h.2.2.2.2.2.2.2.2.2.2.2.2.2.2.2.2.2.2.2.2.2.2.2.2.2.2.2.2.2.2.2.2.2.2.2.2.2.2.2.2.2.2.1
theorem lm_put {I : Nat → Wd → Prop} (h : LMath I) : LM_put I := h.2.2.2.2.2.2.2.2.2.2.2.2.2.2.2.2.2.2.2.2.2.2.2.2.2.2.2.2.2.2.2.2.2.2.2.2.2.2.2.2.2.2.2.1
theorem lm_at {I : Nat → Wd → Prop} (h : LMath I) : LM_at I := h.2.2.2.2.2.2.2.2.2.2.2.2.2.2.2.2.2.2.2.2.2.2.2.2.2.2.2.2.2.2.2.2.2.2.2.2.2.2.2.2.2.2.2.2.1
theorem lm_copy {I : Nat → Wd → Prop} (h : LMath I) : LM_copy I := h.2.2.2.2.2.2.2.2.2.2.2.2.2.2.2.2.2.2.2.2.2.2.2.2.2.2.2.2.2.2.2.2.2.2.2.2.2.2.2.2.2.2.2.2.2.1
theorem lm_count {I : Nat → Wd → Prop} (h : LMath I) : LM_count I := h.2.2.2.2.2.2.2.2.2.2.2.2.2.2.2.2.2.2.2.2.2.2.2.2.2.2.2.2.2.2.2.2.2.2.2.2.2.2.2.2.2.2.2.2.2.2
theorem lv_at6 {n k L : Nat} (hn : 6 * n + 6 ≤ L) (hL : L ≤ 3072) (hk : k < 6) {x : Int32} (hx : x = iN k) : inb (iN (6 * n) + x) L = true := by
  rw [hx, iN_add, inb_iN (by omega)]
  exact decide_eq_true (by omega)
theorem lv_at0 {n L : Nat} (hn : 6 * n + 6 ≤ L) (hL : L ≤ 3072) : inb (iN (6 * n)) L = true := by
  rw [inb_iN (by omega)]
  exact decide_eq_true (by omega)
def LV5 (n : Nat) : List (Option Value) := [some (.ref 170), some (.ref 0), some (.ref 148), some (.ref 169), some (.int (iN (6 * n)))]
/-- what of K a call leaves -/
def KPs (K K' : KT) : Prop := K'.1 = K.1 ∧ K'.meth = K.meth ∧ K'.c = K.c ∧ K'.Q = K.Q
theorem KPs.rf (K : KT) : KPs K K := ⟨rfl, rfl, rfl, rfl⟩
theorem KPs.kn (K : KT) {S : KS} {c s : Nat} : KPs K (Kn K S c s) := ⟨rfl, rfl, rfl, rfl⟩
theorem cmp_self (x : Int64) : lg_cmp x x = 0 := by
  simp [lg_cmp]
theorem oI_inl {o : (Int32 ⊕ Bool) × Wd} (h : (oI o).1 = 0) : ∃ x, o.1 = .inl x := by
  obtain ⟨a, w⟩ := o
  rcases a with x | b
  · exact ⟨x, rfl⟩
  · cases b
    · exact absurd h (by show ¬ (1 : Int32) = 0; decide)
    · exact absurd h (by show ¬ (2 : Int32) = 0; decide)
theorem oJ_inl {o : (Int64 ⊕ Bool) × Wd} (h : (oJ o).1 = 0) : ∃ x, o.1 = .inl x := by
  obtain ⟨a, w⟩ := o
  rcases a with x | b
  · exact ⟨x, rfl⟩
  · cases b
    · exact absurd h (by show ¬ (1 : Int32) = 0; decide)
    · exact absurd h (by show ¬ (2 : Int32) = 0; decide)
theorem noV_LV {n v : Nat} (h : 200 ≤ v) : noV v (LV n) = true := by
  have e : ∀ a, a < 200 → Nat.beq a v = false := fun a ha => by
    cases hb : Nat.beq a v
    · rfl
    · exact absurd (Nat.eq_of_beq_eq_true hb) (by omega)
  simp [noV, LV, e 170 (by omega), e 0 (by omega), e 148 (by omega), e 169 (by omega)]
theorem LB.kn {K : KT} {b L n : Nat} {xs : Nat → Int32} {w w' : Wd} (B : LB K b L xs n w) (G2 : GK (Kn K K.ks (K.cells + 1) (K.slots + 6)) code RL 8 300) (hr : K.cells + 91 ≤ K.R.cells ∧ K.slots + 4358 ≤ K.R.slots ∧ K.cells + 91 ≤ 300 + 100 * (n + 1) ∧ K.slots + 4358 ≤ 60000 + 5000 * (n + 1)) (hf : FL w w') : LB (Kn K K.ks (K.cells + 1) (K.slots + 6)) b L xs (n + 1) w' := by
  have B2 := B.fl hf
  exact ⟨⟨G2, B2.1.2⟩, B2.2.1, ⟨by show K.cells + 1 ≤ _; omega, by show K.slots + 6 ≤ _; omega⟩, B2.2.2.2.1, B2.2.2.2.2⟩
theorem LB.keep {K : KT} {b L n sz : Nat} {xs : Nat → Int32} {w w' : Wd} {S' : KS} (B : LB K b L xs n w) (hP : KP K.ks S' w' sz) (hsz : K.H0.size ≤ sz) (G2 : GK (Kn K S' (K.cells + 91) (K.slots + 4358)) code RL 8 300) (hr : K.cells + 91 ≤ 300 + 100 * (n + 1) ∧ K.slots + 4358 ≤ 60000 + 5000 * (n + 1)) : LB (Kn K S' (K.cells + 91) (K.slots + 4358)) b L xs (n + 1) w' ∧ KPs K (Kn K S' (K.cells + 91) (K.slots + 4358)) := by
  obtain ⟨lo, hi, hlo, hE, h9, hM, hIM, hFR, h2⟩ := hP
  have k169 := B.1.2.2.1
  obtain ⟨u1, u2⟩ := hE.2.1 169 (by omega) (by omega)
  refine ⟨⟨⟨G2, hM, ⟨u1.mpr k169.1, u2.trans k169.2⟩, fun a ha => ?_, fun A U H h => B.1.2.2.2.2 A U H (by rw [← hE.1.2.2]; exact h)⟩, ⟨hIM, hFR, hE.2.2.2.2.2⟩, hr, ⟨B.2.2.2.1.1, (hE.2.2.1 170 (by omega)).trans B.2.2.2.1.2.1, B.2.2.2.1.2.2⟩, B.2.2.2.2⟩, KPs.kn K⟩
  by_cases hb : lo ≤ a ∧ a ≤ hi
  · exact Or.inl (h2 a hb.1 hb.2)
  · by_cases e9 : a = 9999
    · subst e9
      show n2 (S'.kd 9999) ∨ _
      rw [h9.2]
      exact B.1.2.2.2.1 9999 (h9.1.mp ha)
    · obtain ⟨u3, u4⟩ := hE.2.1 a hb e9
      show n2 (S'.kd a) ∨ _
      rw [u4]
      exact B.1.2.2.2.1 a (u3.mp ha)
section XB
variable {K : KT} {cc : ByteArray} {own : String} {nL d pc : Nat} {lv : List (Option Value)} {st : List Value} {w : Wd}
theorem xb_bool (G : GK K cc own nL d) {x : Int32} {o1 o2 : Int} {t e : Nat} (d0 : decode cc pc = .ok (.ifCond .eq o1, 3)) (ht : (pc : Int) + o1 = (t : Int)) (d1 : decode cc (pc + 3) = .ok (.iconst 1, 1)) (d2 : decode cc (pc + 4) = .ok (.goto o2, 3)) (he : ((pc + 4 : Nat) : Int) + o2 = (e : Int)) (d3 : decode cc t = .ok (.iconst 0, 1)) (he2 : t + 1 = e) (k : XW K e lv (.int (if x = 0 then 0 else 1) :: st) w) : XW K pc lv (.int x :: st) w := by
  refine x_ifeq (α := Unit) (A := some ()) (B := some ()) (r := ()) G d0 ht (by split <;> rfl) (fun hx _ => ?_) (fun hx _ => ?_)
  · rw [if_pos hx] at k
    refine x_iconst G (v := 0) d3 (by decide) ?_
    rw [he2]
    exact k
  · rw [if_neg hx] at k
    refine x_iconst G (v := 1) d1 (by decide) ?_
    exact x_goto G d2 he k
end XB
