set_option maxRecDepth 100000 in
theorem ni_18 : Int32.ofInt (18) = (18 : Int32) := by decide +kernel
set_option maxRecDepth 100000 in
theorem ni_19 : Int32.ofInt (19) = (19 : Int32) := by decide +kernel
set_option maxRecDepth 100000 in
theorem ni_30 : Int32.ofInt (30) = (30 : Int32) := by decide +kernel
set_option maxRecDepth 100000 in
theorem ni_31 : Int32.ofInt (31) = (31 : Int32) := by decide +kernel
set_option maxRecDepth 100000 in
theorem ni_32 : Int32.ofInt (32) = (32 : Int32) := by decide +kernel
set_option maxRecDepth 100000 in
theorem ni_33 : Int32.ofInt (33) = (33 : Int32) := by decide +kernel
set_option maxRecDepth 100000 in
theorem ni_34 : Int32.ofInt (34) = (34 : Int32) := by decide +kernel
set_option maxRecDepth 100000 in
theorem ni_35 : Int32.ofInt (35) = (35 : Int32) := by decide +kernel
set_option maxRecDepth 100000 in
theorem ni_36 : Int32.ofInt (36) = (36 : Int32) := by decide +kernel
set_option maxRecDepth 100000 in
theorem ni_37 : Int32.ofInt (37) = (37 : Int32) := by decide +kernel
set_option maxRecDepth 100000 in
theorem ni_38 : Int32.ofInt (38) = (38 : Int32) := by decide +kernel
set_option maxRecDepth 100000 in
theorem ni_39 : Int32.ofInt (39) = (39 : Int32) := by decide +kernel
set_option maxRecDepth 100000 in
theorem ni_40 : Int32.ofInt (40) = (40 : Int32) := by decide +kernel
set_option maxRecDepth 100000 in
theorem ni_41 : Int32.ofInt (41) = (41 : Int32) := by decide +kernel
set_option maxRecDepth 100000 in
theorem n_L_7 : nk RL 7 9 := ⟨(RX9, TX9, 11), rfl, rfl, tyX9_ok, uX9, fdX9, wi 21 (by rfl) rfl, wi 22 (by rfl) rfl, wi 1 (by rfl) rfl⟩
set_option maxRecDepth 100000 in
theorem n_L_10 : nk RL 10 10 := ⟨(RX10, TX10, 68), rfl, rfl, tyX10_ok, uX10, fdX10, wi 1122 (by rfl) rfl, wi 1123 (by rfl) rfl, wi 15 (by rfl) rfl⟩
set_option maxRecDepth 100000 in
theorem m_X10_announce : mk9 yX10_announce cX10_announce 2 (some .boolean) 1 := ⟨wi 1545 (by rfl) rfl, wi 15 (by rfl) rfl, ⟨by decide +kernel, by decide +kernel⟩, by decide +kernel⟩
set_option maxRecDepth 100000 in
theorem i_X10_announce : Cond.instanceMethod yX10_announce ∈ gws := wi 1543 (by rfl) rfl
set_option maxRecDepth 100000 in
theorem e_X10_announce : Cond.selects RX10 yX10_announce yX10_announce ∈ gws := wi 1544 (by rfl) rfl
set_option maxRecDepth 100000 in
theorem m_X10_apart : mk9 yX10_apart cX10_apart 4 (some .int) 1 := ⟨wi 1719 (by rfl) rfl, wi 15 (by rfl) rfl, ⟨by decide +kernel, by decide +kernel⟩, by decide +kernel⟩
set_option maxRecDepth 100000 in
theorem i_X10_apart : Cond.instanceMethod yX10_apart ∈ gws := wi 1717 (by rfl) rfl
set_option maxRecDepth 100000 in
theorem e_X10_apart : Cond.selects RX10 yX10_apart yX10_apart ∈ gws := wi 1718 (by rfl) rfl
set_option maxRecDepth 100000 in
theorem m_X10_ask : mk9 yX10_ask cX10_ask 8 (some .int) 1 := ⟨wi 1779 (by rfl) rfl, wi 15 (by rfl) rfl, ⟨by decide +kernel, by decide +kernel⟩, by decide +kernel⟩
set_option maxRecDepth 100000 in
theorem i_X10_ask : Cond.instanceMethod yX10_ask ∈ gws := wi 1777 (by rfl) rfl
set_option maxRecDepth 100000 in
theorem e_X10_ask : Cond.selects RX10 yX10_ask yX10_ask ∈ gws := wi 1778 (by rfl) rfl
set_option maxRecDepth 100000 in
theorem m_X10_back : mk9 yX10_back cX10_back 2 (some .int) 1 := ⟨wi 1362 (by rfl) rfl, wi 15 (by rfl) rfl, ⟨by decide +kernel, by decide +kernel⟩, by decide +kernel⟩
set_option maxRecDepth 100000 in
theorem i_X10_back : Cond.instanceMethod yX10_back ∈ gws := wi 1360 (by rfl) rfl
set_option maxRecDepth 100000 in
theorem e_X10_back : Cond.selects RX10 yX10_back yX10_back ∈ gws := wi 1361 (by rfl) rfl
set_option maxRecDepth 100000 in
theorem m_X10_best : mk9 yX10_best cX10_best 5 (some .int) 1 := ⟨wi 1631 (by rfl) rfl, wi 15 (by rfl) rfl, ⟨by decide +kernel, by decide +kernel⟩, by decide +kernel⟩
set_option maxRecDepth 100000 in
theorem i_X10_best : Cond.instanceMethod yX10_best ∈ gws := wi 1629 (by rfl) rfl
set_option maxRecDepth 100000 in
theorem e_X10_best : Cond.selects RX10 yX10_best yX10_best ∈ gws := wi 1630 (by rfl) rfl
set_option maxRecDepth 100000 in
theorem m_X10_callers : mk9 yX10_callers cX10_callers 5 (some .int) 1 := ⟨wi 1690 (by rfl) rfl, wi 15 (by rfl) rfl, ⟨by decide +kernel, by decide +kernel⟩, by decide +kernel⟩
set_option maxRecDepth 100000 in
theorem i_X10_callers : Cond.instanceMethod yX10_callers ∈ gws := wi 1688 (by rfl) rfl
set_option maxRecDepth 100000 in
theorem e_X10_callers : Cond.selects RX10 yX10_callers yX10_callers ∈ gws := wi 1689 (by rfl) rfl
set_option maxRecDepth 100000 in
theorem m_X10_circle : mk9 yX10_circle cX10_circle 7 (some .int) 2 := ⟨wi 1703 (by rfl) rfl, wi 15 (by rfl) rfl, ⟨by decide +kernel, by decide +kernel⟩, by decide +kernel⟩
set_option maxRecDepth 100000 in
theorem i_X10_circle : Cond.instanceMethod yX10_circle ∈ gws := wi 1701 (by rfl) rfl
set_option maxRecDepth 100000 in
theorem e_X10_circle : Cond.selects RX10 yX10_circle yX10_circle ∈ gws := wi 1702 (by rfl) rfl
set_option maxRecDepth 100000 in
theorem m_X10_count : mk9 yX10_count cX10_count 4 (some .int) 1 := ⟨wi 1791 (by rfl) rfl, wi 15 (by rfl) rfl, ⟨by decide +kernel, by decide +kernel⟩, by decide +kernel⟩
set_option maxRecDepth 100000 in
theorem i_X10_count : Cond.instanceMethod yX10_count ∈ gws := wi 1789 (by rfl) rfl
set_option maxRecDepth 100000 in
theorem e_X10_count : Cond.selects RX10 yX10_count yX10_count ∈ gws := wi 1790 (by rfl) rfl
set_option maxRecDepth 100000 in
theorem m_X10_credit : mk9 yX10_credit cX10_credit 4 (some .int) 1 := ⟨wi 1658 (by rfl) rfl, wi 15 (by rfl) rfl, ⟨by decide +kernel, by decide +kernel⟩, by decide +kernel⟩
set_option maxRecDepth 100000 in
theorem i_X10_credit : Cond.instanceMethod yX10_credit ∈ gws := wi 1656 (by rfl) rfl
set_option maxRecDepth 100000 in
theorem e_X10_credit : Cond.selects RX10 yX10_credit yX10_credit ∈ gws := wi 1657 (by rfl) rfl
set_option maxRecDepth 100000 in
theorem m_X10_doubles : mk9 yX10_doubles cX10_doubles 6 (some .int) 0 := ⟨wi 1707 (by rfl) rfl, wi 15 (by rfl) rfl, ⟨by decide +kernel, by decide +kernel⟩, by decide +kernel⟩
set_option maxRecDepth 100000 in
theorem i_X10_doubles : Cond.instanceMethod yX10_doubles ∈ gws := wi 1705 (by rfl) rfl
set_option maxRecDepth 100000 in
theorem e_X10_doubles : Cond.selects RX10 yX10_doubles yX10_doubles ∈ gws := wi 1706 (by rfl) rfl
set_option maxRecDepth 100000 in
theorem m_X10_evenings : mk9 yX10_evenings cX10_evenings 2 (some .int) 1 := ⟨wi 1572 (by rfl) rfl, wi 15 (by rfl) rfl, ⟨by decide +kernel, by decide +kernel⟩, by decide +kernel⟩
set_option maxRecDepth 100000 in
theorem i_X10_evenings : Cond.instanceMethod yX10_evenings ∈ gws := wi 1570 (by rfl) rfl
set_option maxRecDepth 100000 in
theorem e_X10_evenings : Cond.selects RX10 yX10_evenings yX10_evenings ∈ gws := wi 1571 (by rfl) rfl
set_option maxRecDepth 100000 in
theorem m_X10_faith : mk9 yX10_faith cX10_faith 2 (some .int) 1 := ⟨wi 1711 (by rfl) rfl, wi 15 (by rfl) rfl, ⟨by decide +kernel, by decide +kernel⟩, by decide +kernel⟩
set_option maxRecDepth 100000 in
theorem i_X10_faith : Cond.instanceMethod yX10_faith ∈ gws := wi 1709 (by rfl) rfl
set_option maxRecDepth 100000 in
theorem e_X10_faith : Cond.selects RX10 yX10_faith yX10_faith ∈ gws := wi 1710 (by rfl) rfl
set_option maxRecDepth 100000 in
theorem m_X10_feed : mk9 yX10_feed cX10_feed 6 (some .int) 5 := ⟨wi 1354 (by rfl) rfl, wi 15 (by rfl) rfl, ⟨by decide +kernel, by decide +kernel⟩, by decide +kernel⟩
set_option maxRecDepth 100000 in
theorem i_X10_feed : Cond.instanceMethod yX10_feed ∈ gws := wi 1352 (by rfl) rfl
set_option maxRecDepth 100000 in
theorem e_X10_feed : Cond.selects RX10 yX10_feed yX10_feed ∈ gws := wi 1353 (by rfl) rfl
set_option maxRecDepth 100000 in
theorem m_X10_forget : mk9 yX10_forget cX10_forget 2 (some .int) 0 := ⟨wi 1767 (by rfl) rfl, wi 15 (by rfl) rfl, ⟨by decide +kernel, by decide +kernel⟩, by decide +kernel⟩
set_option maxRecDepth 100000 in
theorem i_X10_forget : Cond.instanceMethod yX10_forget ∈ gws := wi 1765 (by rfl) rfl
set_option maxRecDepth 100000 in
theorem e_X10_forget : Cond.selects RX10 yX10_forget yX10_forget ∈ gws := wi 1766 (by rfl) rfl
set_option maxRecDepth 100000 in
theorem m_X10_hold : mk9 yX10_hold cX10_hold 3 (some .boolean) 1 := ⟨wi 1783 (by rfl) rfl, wi 15 (by rfl) rfl, ⟨by decide +kernel, by decide +kernel⟩, by decide +kernel⟩
set_option maxRecDepth 100000 in
theorem i_X10_hold : Cond.instanceMethod yX10_hold ∈ gws := wi 1781 (by rfl) rfl
set_option maxRecDepth 100000 in
theorem e_X10_hold : Cond.selects RX10 yX10_hold yX10_hold ∈ gws := wi 1782 (by rfl) rfl
set_option maxRecDepth 100000 in
theorem m_X10_holders : mk9 yX10_holders cX10_holders 2 (some .int) 1 := ⟨wi 1666 (by rfl) rfl, wi 15 (by rfl) rfl, ⟨by decide +kernel, by decide +kernel⟩, by decide +kernel⟩
set_option maxRecDepth 100000 in
theorem i_X10_holders : Cond.instanceMethod yX10_holders ∈ gws := wi 1664 (by rfl) rfl
set_option maxRecDepth 100000 in
theorem e_X10_holders : Cond.selects RX10 yX10_holders yX10_holders ∈ gws := wi 1665 (by rfl) rfl
set_option maxRecDepth 100000 in
theorem m_X10_inform : mk9 yX10_inform cX10_inform 3 (some .boolean) 2 := ⟨wi 1557 (by rfl) rfl, wi 15 (by rfl) rfl, ⟨by decide +kernel, by decide +kernel⟩, by decide +kernel⟩
set_option maxRecDepth 100000 in
theorem i_X10_inform : Cond.instanceMethod yX10_inform ∈ gws := wi 1555 (by rfl) rfl
set_option maxRecDepth 100000 in
theorem e_X10_inform : Cond.selects RX10 yX10_inform yX10_inform ∈ gws := wi 1556 (by rfl) rfl
set_option maxRecDepth 100000 in
theorem m_X10_init : mk9 yX10_init cX10_init 1 (none) 0 := ⟨wi 1126 (by rfl) rfl, wi 15 (by rfl) rfl, ⟨by decide +kernel, by decide +kernel⟩, by decide +kernel⟩
set_option maxRecDepth 100000 in
theorem i_X10_init : Cond.instanceMethod yX10_init ∈ gws := wi 1125 (by rfl) rfl
set_option maxRecDepth 100000 in
theorem m_X10_listener : mk9 yX10_listener cX10_listener 3 (some .int) 2 := ⟨wi 1507 (by rfl) rfl, wi 15 (by rfl) rfl, ⟨by decide +kernel, by decide +kernel⟩, by decide +kernel⟩
set_option maxRecDepth 100000 in
theorem i_X10_listener : Cond.instanceMethod yX10_listener ∈ gws := wi 1505 (by rfl) rfl
set_option maxRecDepth 100000 in
theorem e_X10_listener : Cond.selects RX10 yX10_listener yX10_listener ∈ gws := wi 1506 (by rfl) rfl
set_option maxRecDepth 100000 in
theorem m_X10_longOf : mk9 yX10_longOf cX10_longOf 4 (some .int) 2 := ⟨wi 1686 (by rfl) rfl, wi 15 (by rfl) rfl, ⟨by decide +kernel, by decide +kernel⟩, by decide +kernel⟩
set_option maxRecDepth 100000 in
theorem i_X10_longOf : Cond.instanceMethod yX10_longOf ∈ gws := wi 1684 (by rfl) rfl
set_option maxRecDepth 100000 in
theorem e_X10_longOf : Cond.selects RX10 yX10_longOf yX10_longOf ∈ gws := wi 1685 (by rfl) rfl
set_option maxRecDepth 100000 in
theorem m_X10_missing : mk9 yX10_missing cX10_missing 2 (some .int) 1 := ⟨wi 1662 (by rfl) rfl, wi 15 (by rfl) rfl, ⟨by decide +kernel, by decide +kernel⟩, by decide +kernel⟩
set_option maxRecDepth 100000 in
theorem i_X10_missing : Cond.instanceMethod yX10_missing ∈ gws := wi 1660 (by rfl) rfl
set_option maxRecDepth 100000 in
theorem e_X10_missing : Cond.selects RX10 yX10_missing yX10_missing ∈ gws := wi 1661 (by rfl) rfl
set_option maxRecDepth 100000 in
theorem m_X10_never : mk9 yX10_never cX10_never 4 (some .int) 1 := ⟨wi 1715 (by rfl) rfl, wi 15 (by rfl) rfl, ⟨by decide +kernel, by decide +kernel⟩, by decide +kernel⟩
set_option maxRecDepth 100000 in
theorem i_X10_never : Cond.instanceMethod yX10_never ∈ gws := wi 1713 (by rfl) rfl
set_option maxRecDepth 100000 in
theorem e_X10_never : Cond.selects RX10 yX10_never yX10_never ∈ gws := wi 1714 (by rfl) rfl
set_option maxRecDepth 100000 in
theorem m_X10_place : mk9 yX10_place cX10_place 1 (some .int) 0 := ⟨wi 1468 (by rfl) rfl, wi 15 (by rfl) rfl, ⟨by decide +kernel, by decide +kernel⟩, by decide +kernel⟩
set_option maxRecDepth 100000 in
theorem i_X10_place : Cond.instanceMethod yX10_place ∈ gws := wi 1466 (by rfl) rfl
set_option maxRecDepth 100000 in
theorem e_X10_place : Cond.selects RX10 yX10_place yX10_place ∈ gws := wi 1467 (by rfl) rfl
set_option maxRecDepth 100000 in
theorem m_X10_plan : mk9 yX10_plan cX10_plan 3 (some .int) 2 := ⟨wi 1635 (by rfl) rfl, wi 15 (by rfl) rfl, ⟨by decide +kernel, by decide +kernel⟩, by decide +kernel⟩
set_option maxRecDepth 100000 in
theorem i_X10_plan : Cond.instanceMethod yX10_plan ∈ gws := wi 1633 (by rfl) rfl
set_option maxRecDepth 100000 in
theorem e_X10_plan : Cond.selects RX10 yX10_plan yX10_plan ∈ gws := wi 1634 (by rfl) rfl
set_option maxRecDepth 100000 in
theorem m_X10_quietIn : mk9 yX10_quietIn cX10_quietIn 3 (some .int) 2 := ⟨wi 1747 (by rfl) rfl, wi 15 (by rfl) rfl, ⟨by decide +kernel, by decide +kernel⟩, by decide +kernel⟩
set_option maxRecDepth 100000 in
theorem i_X10_quietIn : Cond.instanceMethod yX10_quietIn ∈ gws := wi 1745 (by rfl) rfl
set_option maxRecDepth 100000 in
theorem e_X10_quietIn : Cond.selects RX10 yX10_quietIn yX10_quietIn ∈ gws := wi 1746 (by rfl) rfl
set_option maxRecDepth 100000 in
theorem m_X10_rarest : mk9 yX10_rarest cX10_rarest 4 (some .int) 1 := ⟨wi 1674 (by rfl) rfl, wi 15 (by rfl) rfl, ⟨by decide +kernel, by decide +kernel⟩, by decide +kernel⟩
set_option maxRecDepth 100000 in
theorem i_X10_rarest : Cond.instanceMethod yX10_rarest ∈ gws := wi 1672 (by rfl) rfl
set_option maxRecDepth 100000 in
theorem e_X10_rarest : Cond.selects RX10 yX10_rarest yX10_rarest ∈ gws := wi 1673 (by rfl) rfl
set_option maxRecDepth 100000 in
theorem m_X10_read : mk9 yX10_read cX10_read 2 (some .int) 0 := ⟨wi 1366 (by rfl) rfl, wi 15 (by rfl) rfl, ⟨by decide +kernel, by decide +kernel⟩, by decide +kernel⟩
set_option maxRecDepth 100000 in
theorem i_X10_read : Cond.instanceMethod yX10_read ∈ gws := wi 1364 (by rfl) rfl
set_option maxRecDepth 100000 in
theorem e_X10_read : Cond.selects RX10 yX10_read yX10_read ∈ gws := wi 1365 (by rfl) rfl
set_option maxRecDepth 100000 in
theorem m_X10_restore : mk9 yX10_restore cX10_restore 3 (some .boolean) 1 := ⟨wi 1787 (by rfl) rfl, wi 15 (by rfl) rfl, ⟨by decide +kernel, by decide +kernel⟩, by decide +kernel⟩
set_option maxRecDepth 100000 in
theorem i_X10_restore : Cond.instanceMethod yX10_restore ∈ gws := wi 1785 (by rfl) rfl
set_option maxRecDepth 100000 in
theorem e_X10_restore : Cond.selects RX10 yX10_restore yX10_restore ∈ gws := wi 1786 (by rfl) rfl
set_option maxRecDepth 100000 in
theorem m_X10_role : mk9 yX10_role cX10_role 5 (some .int) 2 := ⟨wi 1472 (by rfl) rfl, wi 15 (by rfl) rfl, ⟨by decide +kernel, by decide +kernel⟩, by decide +kernel⟩
set_option maxRecDepth 100000 in
theorem i_X10_role : Cond.instanceMethod yX10_role ∈ gws := wi 1470 (by rfl) rfl
set_option maxRecDepth 100000 in
theorem e_X10_role : Cond.selects RX10 yX10_role yX10_role ∈ gws := wi 1471 (by rfl) rfl
set_option maxRecDepth 100000 in
theorem m_X10_rumour : mk9 yX10_rumour cX10_rumour 6 (some .int) 1 := ⟨wi 1731 (by rfl) rfl, wi 15 (by rfl) rfl, ⟨by decide +kernel, by decide +kernel⟩, by decide +kernel⟩
set_option maxRecDepth 100000 in
theorem i_X10_rumour : Cond.instanceMethod yX10_rumour ∈ gws := wi 1729 (by rfl) rfl
set_option maxRecDepth 100000 in
theorem e_X10_rumour : Cond.selects RX10 yX10_rumour yX10_rumour ∈ gws := wi 1730 (by rfl) rfl
set_option maxRecDepth 100000 in
theorem m_X10_series : mk9 yX10_series cX10_series 5 (some .int) 2 := ⟨wi 1678 (by rfl) rfl, wi 15 (by rfl) rfl, ⟨by decide +kernel, by decide +kernel⟩, by decide +kernel⟩
set_option maxRecDepth 100000 in
theorem i_X10_series : Cond.instanceMethod yX10_series ∈ gws := wi 1676 (by rfl) rfl
set_option maxRecDepth 100000 in
theorem e_X10_series : Cond.selects RX10 yX10_series yX10_series ∈ gws := wi 1677 (by rfl) rfl
set_option maxRecDepth 100000 in
theorem m_X10_star : mk9 yX10_star cX10_star 6 (some .int) 1 := ⟨wi 1654 (by rfl) rfl, wi 15 (by rfl) rfl, ⟨by decide +kernel, by decide +kernel⟩, by decide +kernel⟩
set_option maxRecDepth 100000 in
theorem i_X10_star : Cond.instanceMethod yX10_star ∈ gws := wi 1652 (by rfl) rfl
set_option maxRecDepth 100000 in
theorem e_X10_star : Cond.selects RX10 yX10_star yX10_star ∈ gws := wi 1653 (by rfl) rfl
set_option maxRecDepth 100000 in
theorem m_X10_sure : mk9 yX10_sure cX10_sure 8 (some .int) 4 := ⟨wi 1751 (by rfl) rfl, wi 15 (by rfl) rfl, ⟨by decide +kernel, by decide +kernel⟩, by decide +kernel⟩
set_option maxRecDepth 100000 in
theorem i_X10_sure : Cond.instanceMethod yX10_sure ∈ gws := wi 1749 (by rfl) rfl
set_option maxRecDepth 100000 in
theorem e_X10_sure : Cond.selects RX10 yX10_sure yX10_sure ∈ gws := wi 1750 (by rfl) rfl
set_option maxRecDepth 100000 in
theorem m_X10_sway : mk9 yX10_sway cX10_sway 3 (some .int) 1 := ⟨wi 1694 (by rfl) rfl, wi 15 (by rfl) rfl, ⟨by decide +kernel, by decide +kernel⟩, by decide +kernel⟩
set_option maxRecDepth 100000 in
theorem i_X10_sway : Cond.instanceMethod yX10_sway ∈ gws := wi 1692 (by rfl) rfl
set_option maxRecDepth 100000 in
theorem e_X10_sway : Cond.selects RX10 yX10_sway yX10_sway ∈ gws := wi 1693 (by rfl) rfl
set_option maxRecDepth 100000 in
theorem m_X10_talk : mk9 yX10_talk cX10_talk 4 (some .int) 2 := ⟨wi 1564 (by rfl) rfl, wi 15 (by rfl) rfl, ⟨by decide +kernel, by decide +kernel⟩, by decide +kernel⟩
set_option maxRecDepth 100000 in
theorem i_X10_talk : Cond.instanceMethod yX10_talk ∈ gws := wi 1562 (by rfl) rfl
set_option maxRecDepth 100000 in
theorem e_X10_talk : Cond.selects RX10 yX10_talk yX10_talk ∈ gws := wi 1563 (by rfl) rfl
set_option maxRecDepth 100000 in
theorem m_X10_talks : mk9 yX10_talks cX10_talks 4 (some .int) 1 := ⟨wi 1735 (by rfl) rfl, wi 15 (by rfl) rfl, ⟨by decide +kernel, by decide +kernel⟩, by decide +kernel⟩
set_option maxRecDepth 100000 in
theorem i_X10_talks : Cond.instanceMethod yX10_talks ∈ gws := wi 1733 (by rfl) rfl
set_option maxRecDepth 100000 in
theorem e_X10_talks : Cond.selects RX10 yX10_talks yX10_talks ∈ gws := wi 1734 (by rfl) rfl
set_option maxRecDepth 100000 in
theorem m_X10_tellDone : mk9 yX10_tellDone cX10_tellDone 3 (some .int) 2 := ⟨wi 1763 (by rfl) rfl, wi 15 (by rfl) rfl, ⟨by decide +kernel, by decide +kernel⟩, by decide +kernel⟩
set_option maxRecDepth 100000 in
theorem i_X10_tellDone : Cond.instanceMethod yX10_tellDone ∈ gws := wi 1761 (by rfl) rfl
set_option maxRecDepth 100000 in
theorem e_X10_tellDone : Cond.selects RX10 yX10_tellDone yX10_tellDone ∈ gws := wi 1762 (by rfl) rfl
set_option maxRecDepth 100000 in
theorem m_X10_tellFact : mk9 yX10_tellFact cX10_tellFact 3 (some .int) 2 := ⟨wi 1755 (by rfl) rfl, wi 15 (by rfl) rfl, ⟨by decide +kernel, by decide +kernel⟩, by decide +kernel⟩
set_option maxRecDepth 100000 in
theorem i_X10_tellFact : Cond.instanceMethod yX10_tellFact ∈ gws := wi 1753 (by rfl) rfl
set_option maxRecDepth 100000 in
theorem e_X10_tellFact : Cond.selects RX10 yX10_tellFact yX10_tellFact ∈ gws := wi 1754 (by rfl) rfl
set_option maxRecDepth 100000 in
theorem m_X10_tells : mk9 yX10_tells cX10_tells 5 (some .int) 3 := ⟨wi 1519 (by rfl) rfl, wi 15 (by rfl) rfl, ⟨by decide +kernel, by decide +kernel⟩, by decide +kernel⟩
set_option maxRecDepth 100000 in
theorem i_X10_tells : Cond.instanceMethod yX10_tells ∈ gws := wi 1517 (by rfl) rfl
set_option maxRecDepth 100000 in
theorem e_X10_tells : Cond.selects RX10 yX10_tells yX10_tells ∈ gws := wi 1518 (by rfl) rfl
set_option maxRecDepth 100000 in
theorem m_X10_then : mk9 yX10_then cX10_then 4 (some .int) 3 := ⟨wi 1743 (by rfl) rfl, wi 15 (by rfl) rfl, ⟨by decide +kernel, by decide +kernel⟩, by decide +kernel⟩
set_option maxRecDepth 100000 in
theorem i_X10_then : Cond.instanceMethod yX10_then ∈ gws := wi 1741 (by rfl) rfl
set_option maxRecDepth 100000 in
theorem e_X10_then : Cond.selects RX10 yX10_then yX10_then ∈ gws := wi 1742 (by rfl) rfl
set_option maxRecDepth 100000 in
theorem m_X10_tonight : mk9 yX10_tonight cX10_tonight 6 (some .int) 2 := ⟨wi 1607 (by rfl) rfl, wi 15 (by rfl) rfl, ⟨by decide +kernel, by decide +kernel⟩, by decide +kernel⟩
set_option maxRecDepth 100000 in
theorem i_X10_tonight : Cond.instanceMethod yX10_tonight ∈ gws := wi 1605 (by rfl) rfl
set_option maxRecDepth 100000 in
theorem e_X10_tonight : Cond.selects RX10 yX10_tonight yX10_tonight ∈ gws := wi 1606 (by rfl) rfl
set_option maxRecDepth 100000 in
theorem m_X10_turn : mk9 yX10_turn cX10_turn 3 (some .boolean) 2 := ⟨wi 1553 (by rfl) rfl, wi 15 (by rfl) rfl, ⟨by decide +kernel, by decide +kernel⟩, by decide +kernel⟩
set_option maxRecDepth 100000 in
theorem i_X10_turn : Cond.instanceMethod yX10_turn ∈ gws := wi 1551 (by rfl) rfl
set_option maxRecDepth 100000 in
theorem e_X10_turn : Cond.selects RX10 yX10_turn yX10_turn ∈ gws := wi 1552 (by rfl) rfl
set_option maxRecDepth 100000 in
theorem m_X10_undo : mk9 yX10_undo cX10_undo 2 (some .boolean) 0 := ⟨wi 1603 (by rfl) rfl, wi 15 (by rfl) rfl, ⟨by decide +kernel, by decide +kernel⟩, by decide +kernel⟩
set_option maxRecDepth 100000 in
theorem i_X10_undo : Cond.instanceMethod yX10_undo ∈ gws := wi 1601 (by rfl) rfl
set_option maxRecDepth 100000 in
theorem e_X10_undo : Cond.selects RX10 yX10_undo yX10_undo ∈ gws := wi 1602 (by rfl) rfl
set_option maxRecDepth 100000 in
theorem m_X10_unlike : mk9 yX10_unlike cX10_unlike 3 (some .int) 2 := ⟨wi 1727 (by rfl) rfl, wi 15 (by rfl) rfl, ⟨by decide +kernel, by decide +kernel⟩, by decide +kernel⟩
set_option maxRecDepth 100000 in
theorem i_X10_unlike : Cond.instanceMethod yX10_unlike ∈ gws := wi 1725 (by rfl) rfl
set_option maxRecDepth 100000 in
theorem e_X10_unlike : Cond.selects RX10 yX10_unlike yX10_unlike ∈ gws := wi 1726 (by rfl) rfl
set_option maxRecDepth 100000 in
theorem m_X10_who : mk9 yX10_who cX10_who 4 (some .int) 2 := ⟨wi 1771 (by rfl) rfl, wi 15 (by rfl) rfl, ⟨by decide +kernel, by decide +kernel⟩, by decide +kernel⟩
set_option maxRecDepth 100000 in
theorem i_X10_who : Cond.instanceMethod yX10_who ∈ gws := wi 1769 (by rfl) rfl
set_option maxRecDepth 100000 in
theorem e_X10_who : Cond.selects RX10 yX10_who yX10_who ∈ gws := wi 1770 (by rfl) rfl
set_option maxRecDepth 100000 in
theorem m_X9_announce : mk9 yX9_announce cX9_announce 2 (some .boolean) 1 := ⟨wi 841 (by rfl) rfl, wi 1 (by rfl) rfl, ⟨by decide +kernel, by decide +kernel⟩, by decide +kernel⟩
set_option maxRecDepth 100000 in
theorem i_X9_announce : Cond.instanceMethod yX9_announce ∈ gws := wi 839 (by rfl) rfl
set_option maxRecDepth 100000 in
theorem e_X9_announce : Cond.selects RX9 yX9_announce yX9_announce ∈ gws := wi 840 (by rfl) rfl
set_option maxRecDepth 100000 in
theorem m_X9_apart : mk9 yX9_apart cX9_apart 6 (some .int) 1 := ⟨wi 1076 (by rfl) rfl, wi 1 (by rfl) rfl, ⟨by decide +kernel, by decide +kernel⟩, by decide +kernel⟩
set_option maxRecDepth 100000 in
theorem i_X9_apart : Cond.instanceMethod yX9_apart ∈ gws := wi 1074 (by rfl) rfl
set_option maxRecDepth 100000 in
theorem e_X9_apart : Cond.selects RX9 yX9_apart yX9_apart ∈ gws := wi 1075 (by rfl) rfl
set_option maxRecDepth 100000 in
theorem m_X9_ask : mk9 yX9_ask cX9_ask 8 (some .int) 1 := ⟨wi 1117 (by rfl) rfl, wi 1 (by rfl) rfl, ⟨by decide +kernel, by decide +kernel⟩, by decide +kernel⟩
set_option maxRecDepth 100000 in
theorem i_X9_ask : Cond.instanceMethod yX9_ask ∈ gws := wi 1115 (by rfl) rfl
set_option maxRecDepth 100000 in
theorem e_X9_ask : Cond.selects RX9 yX9_ask yX9_ask ∈ gws := wi 1116 (by rfl) rfl
set_option maxRecDepth 100000 in
theorem m_X9_back : mk9 yX9_back cX9_back 2 (some .int) 1 := ⟨wi 448 (by rfl) rfl, wi 1 (by rfl) rfl, ⟨by decide +kernel, by decide +kernel⟩, by decide +kernel⟩
set_option maxRecDepth 100000 in
theorem i_X9_back : Cond.instanceMethod yX9_back ∈ gws := wi 446 (by rfl) rfl
set_option maxRecDepth 100000 in
theorem e_X9_back : Cond.selects RX9 yX9_back yX9_back ∈ gws := wi 447 (by rfl) rfl
set_option maxRecDepth 100000 in
theorem m_X9_best : mk9 yX9_best cX9_best 6 (some .int) 1 := ⟨wi 947 (by rfl) rfl, wi 1 (by rfl) rfl, ⟨by decide +kernel, by decide +kernel⟩, by decide +kernel⟩
set_option maxRecDepth 100000 in
theorem i_X9_best : Cond.instanceMethod yX9_best ∈ gws := wi 945 (by rfl) rfl
set_option maxRecDepth 100000 in
theorem e_X9_best : Cond.selects RX9 yX9_best yX9_best ∈ gws := wi 946 (by rfl) rfl
set_option maxRecDepth 100000 in
theorem m_X9_callers : mk9 yX9_callers cX9_callers 5 (some .int) 1 := ⟨wi 959 (by rfl) rfl, wi 1 (by rfl) rfl, ⟨by decide +kernel, by decide +kernel⟩, by decide +kernel⟩
set_option maxRecDepth 100000 in
theorem i_X9_callers : Cond.instanceMethod yX9_callers ∈ gws := wi 957 (by rfl) rfl
set_option maxRecDepth 100000 in
theorem e_X9_callers : Cond.selects RX9 yX9_callers yX9_callers ∈ gws := wi 958 (by rfl) rfl
set_option maxRecDepth 100000 in
theorem m_X9_circle : mk9 yX9_circle cX9_circle 4 (some .int) 2 := ⟨wi 1052 (by rfl) rfl, wi 1 (by rfl) rfl, ⟨by decide +kernel, by decide +kernel⟩, by decide +kernel⟩
set_option maxRecDepth 100000 in
theorem i_X9_circle : Cond.instanceMethod yX9_circle ∈ gws := wi 1050 (by rfl) rfl
set_option maxRecDepth 100000 in
theorem e_X9_circle : Cond.selects RX9 yX9_circle yX9_circle ∈ gws := wi 1051 (by rfl) rfl
set_option maxRecDepth 100000 in
theorem m_X9_count : mk9 yX9_count cX9_count 2 (some .int) 1 := ⟨wi 795 (by rfl) rfl, wi 1 (by rfl) rfl, ⟨by decide +kernel, by decide +kernel⟩, by decide +kernel⟩
set_option maxRecDepth 100000 in
theorem i_X9_count : Cond.instanceMethod yX9_count ∈ gws := wi 793 (by rfl) rfl
set_option maxRecDepth 100000 in
theorem e_X9_count : Cond.selects RX9 yX9_count yX9_count ∈ gws := wi 794 (by rfl) rfl
set_option maxRecDepth 100000 in
theorem m_X9_credit : mk9 yX9_credit cX9_credit 4 (some .int) 1 := ⟨wi 955 (by rfl) rfl, wi 1 (by rfl) rfl, ⟨by decide +kernel, by decide +kernel⟩, by decide +kernel⟩
set_option maxRecDepth 100000 in
theorem i_X9_credit : Cond.instanceMethod yX9_credit ∈ gws := wi 953 (by rfl) rfl
set_option maxRecDepth 100000 in
theorem e_X9_credit : Cond.selects RX9 yX9_credit yX9_credit ∈ gws := wi 954 (by rfl) rfl
set_option maxRecDepth 100000 in
theorem m_X9_doubles : mk9 yX9_doubles cX9_doubles 4 (some .int) 0 := ⟨wi 1072 (by rfl) rfl, wi 1 (by rfl) rfl, ⟨by decide +kernel, by decide +kernel⟩, by decide +kernel⟩
set_option maxRecDepth 100000 in
theorem i_X9_doubles : Cond.instanceMethod yX9_doubles ∈ gws := wi 1070 (by rfl) rfl
set_option maxRecDepth 100000 in
theorem e_X9_doubles : Cond.selects RX9 yX9_doubles yX9_doubles ∈ gws := wi 1071 (by rfl) rfl
set_option maxRecDepth 100000 in
theorem m_X9_evenings : mk9 yX9_evenings cX9_evenings 2 (some .int) 1 := ⟨wi 875 (by rfl) rfl, wi 1 (by rfl) rfl, ⟨by decide +kernel, by decide +kernel⟩, by decide +kernel⟩
set_option maxRecDepth 100000 in
theorem i_X9_evenings : Cond.instanceMethod yX9_evenings ∈ gws := wi 873 (by rfl) rfl
set_option maxRecDepth 100000 in
theorem e_X9_evenings : Cond.selects RX9 yX9_evenings yX9_evenings ∈ gws := wi 874 (by rfl) rfl
set_option maxRecDepth 100000 in
theorem m_X9_faith : mk9 yX9_faith cX9_faith 2 (some .int) 1 := ⟨wi 1006 (by rfl) rfl, wi 1 (by rfl) rfl, ⟨by decide +kernel, by decide +kernel⟩, by decide +kernel⟩
set_option maxRecDepth 100000 in
theorem i_X9_faith : Cond.instanceMethod yX9_faith ∈ gws := wi 1004 (by rfl) rfl
set_option maxRecDepth 100000 in
theorem e_X9_faith : Cond.selects RX9 yX9_faith yX9_faith ∈ gws := wi 1005 (by rfl) rfl
set_option maxRecDepth 100000 in
theorem m_X9_feed : mk9 yX9_feed cX9_feed 6 (some .int) 5 := ⟨wi 440 (by rfl) rfl, wi 1 (by rfl) rfl, ⟨by decide +kernel, by decide +kernel⟩, by decide +kernel⟩
set_option maxRecDepth 100000 in
theorem i_X9_feed : Cond.instanceMethod yX9_feed ∈ gws := wi 438 (by rfl) rfl
set_option maxRecDepth 100000 in
theorem e_X9_feed : Cond.selects RX9 yX9_feed yX9_feed ∈ gws := wi 439 (by rfl) rfl
set_option maxRecDepth 100000 in
theorem m_X9_forget : mk9 yX9_forget cX9_forget 2 (some .int) 0 := ⟨wi 1100 (by rfl) rfl, wi 1 (by rfl) rfl, ⟨by decide +kernel, by decide +kernel⟩, by decide +kernel⟩
set_option maxRecDepth 100000 in
theorem i_X9_forget : Cond.instanceMethod yX9_forget ∈ gws := wi 1098 (by rfl) rfl
set_option maxRecDepth 100000 in
theorem e_X9_forget : Cond.selects RX9 yX9_forget yX9_forget ∈ gws := wi 1099 (by rfl) rfl
set_option maxRecDepth 100000 in
theorem m_X9_hold : mk9 yX9_hold cX9_hold 2 (some .boolean) 1 := ⟨wi 908 (by rfl) rfl, wi 1 (by rfl) rfl, ⟨by decide +kernel, by decide +kernel⟩, by decide +kernel⟩
set_option maxRecDepth 100000 in
theorem i_X9_hold : Cond.instanceMethod yX9_hold ∈ gws := wi 906 (by rfl) rfl
set_option maxRecDepth 100000 in
theorem e_X9_hold : Cond.selects RX9 yX9_hold yX9_hold ∈ gws := wi 907 (by rfl) rfl
set_option maxRecDepth 100000 in
theorem m_X9_holders : mk9 yX9_holders cX9_holders 2 (some .int) 1 := ⟨wi 1035 (by rfl) rfl, wi 1 (by rfl) rfl, ⟨by decide +kernel, by decide +kernel⟩, by decide +kernel⟩
set_option maxRecDepth 100000 in
theorem i_X9_holders : Cond.instanceMethod yX9_holders ∈ gws := wi 1033 (by rfl) rfl
set_option maxRecDepth 100000 in
theorem e_X9_holders : Cond.selects RX9 yX9_holders yX9_holders ∈ gws := wi 1034 (by rfl) rfl
set_option maxRecDepth 100000 in
theorem m_X9_inform : mk9 yX9_inform cX9_inform 3 (some .boolean) 2 := ⟨wi 859 (by rfl) rfl, wi 1 (by rfl) rfl, ⟨by decide +kernel, by decide +kernel⟩, by decide +kernel⟩
set_option maxRecDepth 100000 in
theorem i_X9_inform : Cond.instanceMethod yX9_inform ∈ gws := wi 857 (by rfl) rfl
set_option maxRecDepth 100000 in
theorem e_X9_inform : Cond.selects RX9 yX9_inform yX9_inform ∈ gws := wi 858 (by rfl) rfl
set_option maxRecDepth 100000 in
theorem m_X9_init : mk9 yX9_init cX9_init 1 (none) 0 := ⟨wi 25 (by rfl) rfl, wi 1 (by rfl) rfl, ⟨by decide +kernel, by decide +kernel⟩, by decide +kernel⟩
set_option maxRecDepth 100000 in
theorem i_X9_init : Cond.instanceMethod yX9_init ∈ gws := wi 24 (by rfl) rfl
set_option maxRecDepth 100000 in
theorem m_X9_listener : mk9 yX9_listener cX9_listener 3 (some .int) 2 := ⟨wi 762 (by rfl) rfl, wi 1 (by rfl) rfl, ⟨by decide +kernel, by decide +kernel⟩, by decide +kernel⟩
set_option maxRecDepth 100000 in
theorem i_X9_listener : Cond.instanceMethod yX9_listener ∈ gws := wi 760 (by rfl) rfl
set_option maxRecDepth 100000 in
theorem e_X9_listener : Cond.selects RX9 yX9_listener yX9_listener ∈ gws := wi 761 (by rfl) rfl
set_option maxRecDepth 100000 in
theorem m_X9_longOf : mk9 yX9_longOf cX9_longOf 4 (some .int) 2 := ⟨wi 1002 (by rfl) rfl, wi 1 (by rfl) rfl, ⟨by decide +kernel, by decide +kernel⟩, by decide +kernel⟩
set_option maxRecDepth 100000 in
theorem i_X9_longOf : Cond.instanceMethod yX9_longOf ∈ gws := wi 1000 (by rfl) rfl
set_option maxRecDepth 100000 in
theorem e_X9_longOf : Cond.selects RX9 yX9_longOf yX9_longOf ∈ gws := wi 1001 (by rfl) rfl
set_option maxRecDepth 100000 in
theorem m_X9_missing : mk9 yX9_missing cX9_missing 2 (some .int) 1 := ⟨wi 1030 (by rfl) rfl, wi 1 (by rfl) rfl, ⟨by decide +kernel, by decide +kernel⟩, by decide +kernel⟩
set_option maxRecDepth 100000 in
theorem i_X9_missing : Cond.instanceMethod yX9_missing ∈ gws := wi 1028 (by rfl) rfl
set_option maxRecDepth 100000 in
theorem e_X9_missing : Cond.selects RX9 yX9_missing yX9_missing ∈ gws := wi 1029 (by rfl) rfl
set_option maxRecDepth 100000 in
theorem m_X9_never : mk9 yX9_never cX9_never 2 (some .int) 1 := ⟨wi 1047 (by rfl) rfl, wi 1 (by rfl) rfl, ⟨by decide +kernel, by decide +kernel⟩, by decide +kernel⟩
set_option maxRecDepth 100000 in
theorem i_X9_never : Cond.instanceMethod yX9_never ∈ gws := wi 1045 (by rfl) rfl
set_option maxRecDepth 100000 in
theorem e_X9_never : Cond.selects RX9 yX9_never yX9_never ∈ gws := wi 1046 (by rfl) rfl
set_option maxRecDepth 100000 in
theorem m_X9_place : mk9 yX9_place cX9_place 1 (some .int) 0 := ⟨wi 723 (by rfl) rfl, wi 1 (by rfl) rfl, ⟨by decide +kernel, by decide +kernel⟩, by decide +kernel⟩
set_option maxRecDepth 100000 in
theorem i_X9_place : Cond.instanceMethod yX9_place ∈ gws := wi 721 (by rfl) rfl
set_option maxRecDepth 100000 in
theorem e_X9_place : Cond.selects RX9 yX9_place yX9_place ∈ gws := wi 722 (by rfl) rfl
set_option maxRecDepth 100000 in
theorem m_X9_plan : mk9 yX9_plan cX9_plan 5 (some .int) 2 := ⟨wi 969 (by rfl) rfl, wi 1 (by rfl) rfl, ⟨by decide +kernel, by decide +kernel⟩, by decide +kernel⟩
set_option maxRecDepth 100000 in
theorem i_X9_plan : Cond.instanceMethod yX9_plan ∈ gws := wi 967 (by rfl) rfl
set_option maxRecDepth 100000 in
theorem e_X9_plan : Cond.selects RX9 yX9_plan yX9_plan ∈ gws := wi 968 (by rfl) rfl
set_option maxRecDepth 100000 in
theorem m_X9_quietIn : mk9 yX9_quietIn cX9_quietIn 3 (some .int) 2 := ⟨wi 1018 (by rfl) rfl, wi 1 (by rfl) rfl, ⟨by decide +kernel, by decide +kernel⟩, by decide +kernel⟩
set_option maxRecDepth 100000 in
theorem i_X9_quietIn : Cond.instanceMethod yX9_quietIn ∈ gws := wi 1016 (by rfl) rfl
set_option maxRecDepth 100000 in
theorem e_X9_quietIn : Cond.selects RX9 yX9_quietIn yX9_quietIn ∈ gws := wi 1017 (by rfl) rfl
set_option maxRecDepth 100000 in
theorem m_X9_rarest : mk9 yX9_rarest cX9_rarest 6 (some .int) 1 := ⟨wi 1043 (by rfl) rfl, wi 1 (by rfl) rfl, ⟨by decide +kernel, by decide +kernel⟩, by decide +kernel⟩
set_option maxRecDepth 100000 in
theorem i_X9_rarest : Cond.instanceMethod yX9_rarest ∈ gws := wi 1041 (by rfl) rfl
set_option maxRecDepth 100000 in
theorem e_X9_rarest : Cond.selects RX9 yX9_rarest yX9_rarest ∈ gws := wi 1042 (by rfl) rfl
set_option maxRecDepth 100000 in
theorem m_X9_read : mk9 yX9_read cX9_read 3 (some .int) 0 := ⟨wi 452 (by rfl) rfl, wi 1 (by rfl) rfl, ⟨by decide +kernel, by decide +kernel⟩, by decide +kernel⟩
set_option maxRecDepth 100000 in
theorem i_X9_read : Cond.instanceMethod yX9_read ∈ gws := wi 450 (by rfl) rfl
set_option maxRecDepth 100000 in
theorem e_X9_read : Cond.selects RX9 yX9_read yX9_read ∈ gws := wi 451 (by rfl) rfl
set_option maxRecDepth 100000 in
theorem m_X9_restore : mk9 yX9_restore cX9_restore 2 (some .boolean) 1 := ⟨wi 916 (by rfl) rfl, wi 1 (by rfl) rfl, ⟨by decide +kernel, by decide +kernel⟩, by decide +kernel⟩
set_option maxRecDepth 100000 in
theorem i_X9_restore : Cond.instanceMethod yX9_restore ∈ gws := wi 914 (by rfl) rfl
set_option maxRecDepth 100000 in
theorem e_X9_restore : Cond.selects RX9 yX9_restore yX9_restore ∈ gws := wi 915 (by rfl) rfl
set_option maxRecDepth 100000 in
theorem m_X9_role : mk9 yX9_role cX9_role 3 (some .int) 2 := ⟨wi 727 (by rfl) rfl, wi 1 (by rfl) rfl, ⟨by decide +kernel, by decide +kernel⟩, by decide +kernel⟩
set_option maxRecDepth 100000 in
theorem i_X9_role : Cond.instanceMethod yX9_role ∈ gws := wi 725 (by rfl) rfl
set_option maxRecDepth 100000 in
theorem e_X9_role : Cond.selects RX9 yX9_role yX9_role ∈ gws := wi 726 (by rfl) rfl
set_option maxRecDepth 100000 in
theorem m_X9_rumour : mk9 yX9_rumour cX9_rumour 7 (some .int) 1 := ⟨wi 1064 (by rfl) rfl, wi 1 (by rfl) rfl, ⟨by decide +kernel, by decide +kernel⟩, by decide +kernel⟩
set_option maxRecDepth 100000 in
theorem i_X9_rumour : Cond.instanceMethod yX9_rumour ∈ gws := wi 1062 (by rfl) rfl
set_option maxRecDepth 100000 in
theorem e_X9_rumour : Cond.selects RX9 yX9_rumour yX9_rumour ∈ gws := wi 1063 (by rfl) rfl
set_option maxRecDepth 100000 in
theorem m_X9_series : mk9 yX9_series cX9_series 4 (some .int) 2 := ⟨wi 994 (by rfl) rfl, wi 1 (by rfl) rfl, ⟨by decide +kernel, by decide +kernel⟩, by decide +kernel⟩
set_option maxRecDepth 100000 in
theorem i_X9_series : Cond.instanceMethod yX9_series ∈ gws := wi 992 (by rfl) rfl
set_option maxRecDepth 100000 in
theorem e_X9_series : Cond.selects RX9 yX9_series yX9_series ∈ gws := wi 993 (by rfl) rfl
set_option maxRecDepth 100000 in
theorem m_X9_star : mk9 yX9_star cX9_star 6 (some .int) 1 := ⟨wi 951 (by rfl) rfl, wi 1 (by rfl) rfl, ⟨by decide +kernel, by decide +kernel⟩, by decide +kernel⟩
set_option maxRecDepth 100000 in
theorem i_X9_star : Cond.instanceMethod yX9_star ∈ gws := wi 949 (by rfl) rfl
set_option maxRecDepth 100000 in
theorem e_X9_star : Cond.selects RX9 yX9_star yX9_star ∈ gws := wi 950 (by rfl) rfl
set_option maxRecDepth 100000 in
theorem m_X9_sure : mk9 yX9_sure cX9_sure 7 (some .int) 4 := ⟨wi 1022 (by rfl) rfl, wi 1 (by rfl) rfl, ⟨by decide +kernel, by decide +kernel⟩, by decide +kernel⟩
set_option maxRecDepth 100000 in
theorem i_X9_sure : Cond.instanceMethod yX9_sure ∈ gws := wi 1020 (by rfl) rfl
set_option maxRecDepth 100000 in
theorem e_X9_sure : Cond.selects RX9 yX9_sure yX9_sure ∈ gws := wi 1021 (by rfl) rfl
set_option maxRecDepth 100000 in
theorem m_X9_sway : mk9 yX9_sway cX9_sway 2 (some .int) 1 := ⟨wi 964 (by rfl) rfl, wi 1 (by rfl) rfl, ⟨by decide +kernel, by decide +kernel⟩, by decide +kernel⟩
set_option maxRecDepth 100000 in
theorem i_X9_sway : Cond.instanceMethod yX9_sway ∈ gws := wi 962 (by rfl) rfl
set_option maxRecDepth 100000 in
theorem e_X9_sway : Cond.selects RX9 yX9_sway yX9_sway ∈ gws := wi 963 (by rfl) rfl
set_option maxRecDepth 100000 in
theorem m_X9_talk : mk9 yX9_talk cX9_talk 5 (some .int) 2 := ⟨wi 867 (by rfl) rfl, wi 1 (by rfl) rfl, ⟨by decide +kernel, by decide +kernel⟩, by decide +kernel⟩
set_option maxRecDepth 100000 in
theorem i_X9_talk : Cond.instanceMethod yX9_talk ∈ gws := wi 865 (by rfl) rfl
set_option maxRecDepth 100000 in
theorem e_X9_talk : Cond.selects RX9 yX9_talk yX9_talk ∈ gws := wi 866 (by rfl) rfl
set_option maxRecDepth 100000 in
theorem m_X9_talks : mk9 yX9_talks cX9_talks 3 (some .int) 1 := ⟨wi 1068 (by rfl) rfl, wi 1 (by rfl) rfl, ⟨by decide +kernel, by decide +kernel⟩, by decide +kernel⟩
set_option maxRecDepth 100000 in
theorem i_X9_talks : Cond.instanceMethod yX9_talks ∈ gws := wi 1066 (by rfl) rfl
set_option maxRecDepth 100000 in
theorem e_X9_talks : Cond.selects RX9 yX9_talks yX9_talks ∈ gws := wi 1067 (by rfl) rfl
set_option maxRecDepth 100000 in
theorem m_X9_tellDone : mk9 yX9_tellDone cX9_tellDone 3 (some .int) 2 := ⟨wi 1096 (by rfl) rfl, wi 1 (by rfl) rfl, ⟨by decide +kernel, by decide +kernel⟩, by decide +kernel⟩
set_option maxRecDepth 100000 in
theorem i_X9_tellDone : Cond.instanceMethod yX9_tellDone ∈ gws := wi 1094 (by rfl) rfl
set_option maxRecDepth 100000 in
theorem e_X9_tellDone : Cond.selects RX9 yX9_tellDone yX9_tellDone ∈ gws := wi 1095 (by rfl) rfl
set_option maxRecDepth 100000 in
theorem m_X9_tellFact : mk9 yX9_tellFact cX9_tellFact 3 (some .int) 2 := ⟨wi 1088 (by rfl) rfl, wi 1 (by rfl) rfl, ⟨by decide +kernel, by decide +kernel⟩, by decide +kernel⟩
set_option maxRecDepth 100000 in
theorem i_X9_tellFact : Cond.instanceMethod yX9_tellFact ∈ gws := wi 1086 (by rfl) rfl
set_option maxRecDepth 100000 in
theorem e_X9_tellFact : Cond.selects RX9 yX9_tellFact yX9_tellFact ∈ gws := wi 1087 (by rfl) rfl
set_option maxRecDepth 100000 in
theorem m_X9_tells : mk9 yX9_tells cX9_tells 4 (some .int) 3 := ⟨wi 780 (by rfl) rfl, wi 1 (by rfl) rfl, ⟨by decide +kernel, by decide +kernel⟩, by decide +kernel⟩
set_option maxRecDepth 100000 in
theorem i_X9_tells : Cond.instanceMethod yX9_tells ∈ gws := wi 778 (by rfl) rfl
set_option maxRecDepth 100000 in
theorem e_X9_tells : Cond.selects RX9 yX9_tells yX9_tells ∈ gws := wi 779 (by rfl) rfl
set_option maxRecDepth 100000 in
theorem m_X9_then : mk9 yX9_then cX9_then 4 (some .int) 3 := ⟨wi 1014 (by rfl) rfl, wi 1 (by rfl) rfl, ⟨by decide +kernel, by decide +kernel⟩, by decide +kernel⟩
set_option maxRecDepth 100000 in
theorem i_X9_then : Cond.instanceMethod yX9_then ∈ gws := wi 1012 (by rfl) rfl
set_option maxRecDepth 100000 in
theorem e_X9_then : Cond.selects RX9 yX9_then yX9_then ∈ gws := wi 1013 (by rfl) rfl
set_option maxRecDepth 100000 in
theorem m_X9_tonight : mk9 yX9_tonight cX9_tonight 3 (some .int) 2 := ⟨wi 925 (by rfl) rfl, wi 1 (by rfl) rfl, ⟨by decide +kernel, by decide +kernel⟩, by decide +kernel⟩
set_option maxRecDepth 100000 in
theorem i_X9_tonight : Cond.instanceMethod yX9_tonight ∈ gws := wi 923 (by rfl) rfl
set_option maxRecDepth 100000 in
theorem e_X9_tonight : Cond.selects RX9 yX9_tonight yX9_tonight ∈ gws := wi 924 (by rfl) rfl
set_option maxRecDepth 100000 in
theorem m_X9_turn : mk9 yX9_turn cX9_turn 3 (some .boolean) 2 := ⟨wi 855 (by rfl) rfl, wi 1 (by rfl) rfl, ⟨by decide +kernel, by decide +kernel⟩, by decide +kernel⟩
set_option maxRecDepth 100000 in
theorem i_X9_turn : Cond.instanceMethod yX9_turn ∈ gws := wi 853 (by rfl) rfl
set_option maxRecDepth 100000 in
theorem e_X9_turn : Cond.selects RX9 yX9_turn yX9_turn ∈ gws := wi 854 (by rfl) rfl
set_option maxRecDepth 100000 in
theorem m_X9_undo : mk9 yX9_undo cX9_undo 1 (some .boolean) 0 := ⟨wi 900 (by rfl) rfl, wi 1 (by rfl) rfl, ⟨by decide +kernel, by decide +kernel⟩, by decide +kernel⟩
set_option maxRecDepth 100000 in
theorem i_X9_undo : Cond.instanceMethod yX9_undo ∈ gws := wi 898 (by rfl) rfl
set_option maxRecDepth 100000 in
theorem e_X9_undo : Cond.selects RX9 yX9_undo yX9_undo ∈ gws := wi 899 (by rfl) rfl
set_option maxRecDepth 100000 in
theorem m_X9_unlike : mk9 yX9_unlike cX9_unlike 3 (some .int) 2 := ⟨wi 1084 (by rfl) rfl, wi 1 (by rfl) rfl, ⟨by decide +kernel, by decide +kernel⟩, by decide +kernel⟩
set_option maxRecDepth 100000 in
theorem i_X9_unlike : Cond.instanceMethod yX9_unlike ∈ gws := wi 1082 (by rfl) rfl
set_option maxRecDepth 100000 in
theorem e_X9_unlike : Cond.selects RX9 yX9_unlike yX9_unlike ∈ gws := wi 1083 (by rfl) rfl
set_option maxRecDepth 100000 in
theorem m_X9_who : mk9 yX9_who cX9_who 4 (some .int) 2 := ⟨wi 1104 (by rfl) rfl, wi 1 (by rfl) rfl, ⟨by decide +kernel, by decide +kernel⟩, by decide +kernel⟩
set_option maxRecDepth 100000 in
theorem i_X9_who : Cond.instanceMethod yX9_who ∈ gws := wi 1102 (by rfl) rfl
set_option maxRecDepth 100000 in
theorem e_X9_who : Cond.selects RX9 yX9_who yX9_who ∈ gws := wi 1103 (by rfl) rfl
set_option maxRecDepth 100000 in
theorem l_L_9 : lk9 RL 9 yX9_init := Or.inl (wi 23 (by rfl) rfl)
set_option maxRecDepth 100000 in
theorem l_L_12 : lk9 RL 12 yX10_init := Or.inl (wi 1124 (by rfl) rfl)
set_option maxRecDepth 100000 in
theorem l_L_13 : lk9 RL 13 yX9_feed := Or.inl (wi 437 (by rfl) rfl)
set_option maxRecDepth 100000 in
theorem l_L_17 : lk9 RL 17 yX10_feed := Or.inl (wi 1351 (by rfl) rfl)
set_option maxRecDepth 100000 in
theorem l_L_18 : lk9 RL 18 yX9_back := Or.inl (wi 445 (by rfl) rfl)
set_option maxRecDepth 100000 in
theorem l_L_22 : lk9 RL 22 yX10_back := Or.inl (wi 1359 (by rfl) rfl)
set_option maxRecDepth 100000 in
theorem l_L_23 : lk9 RL 23 yX9_read := Or.inl (wi 449 (by rfl) rfl)
set_option maxRecDepth 100000 in
theorem l_L_27 : lk9 RL 27 yX10_read := Or.inl (wi 1363 (by rfl) rfl)
set_option maxRecDepth 100000 in
theorem l_L_28 : lk9 RL 28 yX9_place := Or.inl (wi 720 (by rfl) rfl)
set_option maxRecDepth 100000 in
theorem l_L_31 : lk9 RL 31 yX10_place := Or.inl (wi 1465 (by rfl) rfl)
set_option maxRecDepth 100000 in
theorem l_L_32 : lk9 RL 32 yX9_role := Or.inl (wi 724 (by rfl) rfl)
set_option maxRecDepth 100000 in
theorem l_L_36 : lk9 RL 36 yX10_role := Or.inl (wi 1469 (by rfl) rfl)
set_option maxRecDepth 100000 in
theorem l_L_37 : lk9 RL 37 yX9_listener := Or.inl (wi 759 (by rfl) rfl)
set_option maxRecDepth 100000 in
theorem l_L_40 : lk9 RL 40 yX10_listener := Or.inl (wi 1504 (by rfl) rfl)
set_option maxRecDepth 100000 in
theorem l_L_41 : lk9 RL 41 yX9_tells := Or.inl (wi 777 (by rfl) rfl)
set_option maxRecDepth 100000 in
theorem l_L_45 : lk9 RL 45 yX10_tells := Or.inl (wi 1516 (by rfl) rfl)
set_option maxRecDepth 100000 in
theorem l_L_46 : lk9 RL 46 yX9_announce := Or.inl (wi 838 (by rfl) rfl)
set_option maxRecDepth 100000 in
theorem l_L_50 : lk9 RL 50 yX10_announce := Or.inl (wi 1542 (by rfl) rfl)
set_option maxRecDepth 100000 in
theorem l_L_51 : lk9 RL 51 yX9_turn := Or.inl (wi 852 (by rfl) rfl)
set_option maxRecDepth 100000 in
theorem l_L_55 : lk9 RL 55 yX10_turn := Or.inl (wi 1550 (by rfl) rfl)
set_option maxRecDepth 100000 in
theorem l_L_56 : lk9 RL 56 yX9_inform := Or.inl (wi 856 (by rfl) rfl)
set_option maxRecDepth 100000 in
theorem l_L_60 : lk9 RL 60 yX10_inform := Or.inl (wi 1554 (by rfl) rfl)
set_option maxRecDepth 100000 in
theorem l_L_61 : lk9 RL 61 yX9_talk := Or.inl (wi 864 (by rfl) rfl)
set_option maxRecDepth 100000 in
theorem l_L_64 : lk9 RL 64 yX10_talk := Or.inl (wi 1561 (by rfl) rfl)
set_option maxRecDepth 100000 in
theorem l_L_65 : lk9 RL 65 yX9_evenings := Or.inl (wi 872 (by rfl) rfl)
set_option maxRecDepth 100000 in
theorem l_L_68 : lk9 RL 68 yX10_evenings := Or.inl (wi 1569 (by rfl) rfl)
set_option maxRecDepth 100000 in
theorem l_L_69 : lk9 RL 69 yX9_undo := Or.inl (wi 897 (by rfl) rfl)
set_option maxRecDepth 100000 in
theorem l_L_73 : lk9 RL 73 yX10_undo := Or.inl (wi 1600 (by rfl) rfl)
set_option maxRecDepth 100000 in
theorem l_L_74 : lk9 RL 74 yX9_tonight := Or.inl (wi 922 (by rfl) rfl)
set_option maxRecDepth 100000 in
theorem l_L_77 : lk9 RL 77 yX10_tonight := Or.inl (wi 1604 (by rfl) rfl)
set_option maxRecDepth 100000 in
theorem l_L_78 : lk9 RL 78 yX9_best := Or.inl (wi 944 (by rfl) rfl)
set_option maxRecDepth 100000 in
theorem l_L_81 : lk9 RL 81 yX10_best := Or.inl (wi 1628 (by rfl) rfl)
set_option maxRecDepth 100000 in
theorem l_L_82 : lk9 RL 82 yX9_plan := Or.inl (wi 966 (by rfl) rfl)
set_option maxRecDepth 100000 in
theorem l_L_85 : lk9 RL 85 yX10_plan := Or.inl (wi 1632 (by rfl) rfl)
set_option maxRecDepth 100000 in
theorem l_L_86 : lk9 RL 86 yX9_star := Or.inl (wi 948 (by rfl) rfl)
set_option maxRecDepth 100000 in
theorem l_L_89 : lk9 RL 89 yX10_star := Or.inl (wi 1651 (by rfl) rfl)
set_option maxRecDepth 100000 in
theorem l_L_90 : lk9 RL 90 yX9_credit := Or.inl (wi 952 (by rfl) rfl)
set_option maxRecDepth 100000 in
theorem l_L_93 : lk9 RL 93 yX10_credit := Or.inl (wi 1655 (by rfl) rfl)
set_option maxRecDepth 100000 in
theorem l_L_94 : lk9 RL 94 yX9_missing := Or.inl (wi 1027 (by rfl) rfl)
set_option maxRecDepth 100000 in
theorem l_L_97 : lk9 RL 97 yX10_missing := Or.inl (wi 1659 (by rfl) rfl)
set_option maxRecDepth 100000 in
theorem l_L_98 : lk9 RL 98 yX9_holders := Or.inl (wi 1032 (by rfl) rfl)
set_option maxRecDepth 100000 in
theorem l_L_101 : lk9 RL 101 yX10_holders := Or.inl (wi 1663 (by rfl) rfl)
set_option maxRecDepth 100000 in
theorem l_L_102 : lk9 RL 102 yX9_rarest := Or.inl (wi 1040 (by rfl) rfl)
set_option maxRecDepth 100000 in
theorem l_L_105 : lk9 RL 105 yX10_rarest := Or.inl (wi 1671 (by rfl) rfl)
set_option maxRecDepth 100000 in
theorem l_L_106 : lk9 RL 106 yX9_series := Or.inl (wi 991 (by rfl) rfl)
set_option maxRecDepth 100000 in
theorem l_L_109 : lk9 RL 109 yX10_series := Or.inl (wi 1675 (by rfl) rfl)
set_option maxRecDepth 100000 in
theorem l_L_110 : lk9 RL 110 yX9_longOf := Or.inl (wi 999 (by rfl) rfl)
set_option maxRecDepth 100000 in
theorem l_L_113 : lk9 RL 113 yX10_longOf := Or.inl (wi 1683 (by rfl) rfl)
set_option maxRecDepth 100000 in
theorem l_L_114 : lk9 RL 114 yX9_callers := Or.inl (wi 956 (by rfl) rfl)
set_option maxRecDepth 100000 in
theorem l_L_117 : lk9 RL 117 yX10_callers := Or.inl (wi 1687 (by rfl) rfl)
set_option maxRecDepth 100000 in
theorem l_L_118 : lk9 RL 118 yX9_sway := Or.inl (wi 961 (by rfl) rfl)
set_option maxRecDepth 100000 in
theorem l_L_121 : lk9 RL 121 yX10_sway := Or.inl (wi 1691 (by rfl) rfl)
set_option maxRecDepth 100000 in
theorem l_L_122 : lk9 RL 122 yX9_circle := Or.inl (wi 1049 (by rfl) rfl)
set_option maxRecDepth 100000 in
theorem l_L_125 : lk9 RL 125 yX10_circle := Or.inl (wi 1700 (by rfl) rfl)
set_option maxRecDepth 100000 in
theorem l_L_126 : lk9 RL 126 yX9_doubles := Or.inl (wi 1069 (by rfl) rfl)
set_option maxRecDepth 100000 in
theorem l_L_129 : lk9 RL 129 yX10_doubles := Or.inl (wi 1704 (by rfl) rfl)
set_option maxRecDepth 100000 in
theorem l_L_130 : lk9 RL 130 yX9_faith := Or.inl (wi 1003 (by rfl) rfl)
set_option maxRecDepth 100000 in
theorem l_L_133 : lk9 RL 133 yX10_faith := Or.inl (wi 1708 (by rfl) rfl)
set_option maxRecDepth 100000 in
theorem l_L_134 : lk9 RL 134 yX9_never := Or.inl (wi 1044 (by rfl) rfl)
set_option maxRecDepth 100000 in
theorem l_L_137 : lk9 RL 137 yX10_never := Or.inl (wi 1712 (by rfl) rfl)
set_option maxRecDepth 100000 in
theorem l_L_138 : lk9 RL 138 yX9_apart := Or.inl (wi 1073 (by rfl) rfl)
set_option maxRecDepth 100000 in
theorem l_L_141 : lk9 RL 141 yX10_apart := Or.inl (wi 1716 (by rfl) rfl)
set_option maxRecDepth 100000 in
theorem l_L_142 : lk9 RL 142 yX9_unlike := Or.inl (wi 1081 (by rfl) rfl)
set_option maxRecDepth 100000 in
theorem l_L_145 : lk9 RL 145 yX10_unlike := Or.inl (wi 1724 (by rfl) rfl)
set_option maxRecDepth 100000 in
theorem l_L_146 : lk9 RL 146 yX9_rumour := Or.inl (wi 1061 (by rfl) rfl)
set_option maxRecDepth 100000 in
theorem l_L_149 : lk9 RL 149 yX10_rumour := Or.inl (wi 1728 (by rfl) rfl)
set_option maxRecDepth 100000 in
theorem l_L_150 : lk9 RL 150 yX9_talks := Or.inl (wi 1065 (by rfl) rfl)
set_option maxRecDepth 100000 in
theorem l_L_153 : lk9 RL 153 yX10_talks := Or.inl (wi 1732 (by rfl) rfl)
set_option maxRecDepth 100000 in
theorem l_L_154 : lk9 RL 154 yX9_then := Or.inl (wi 1011 (by rfl) rfl)
set_option maxRecDepth 100000 in
theorem l_L_157 : lk9 RL 157 yX10_then := Or.inl (wi 1740 (by rfl) rfl)
set_option maxRecDepth 100000 in
theorem l_L_158 : lk9 RL 158 yX9_quietIn := Or.inl (wi 1015 (by rfl) rfl)
set_option maxRecDepth 100000 in
theorem l_L_161 : lk9 RL 161 yX10_quietIn := Or.inl (wi 1744 (by rfl) rfl)
set_option maxRecDepth 100000 in
theorem l_L_162 : lk9 RL 162 yX9_sure := Or.inl (wi 1019 (by rfl) rfl)
set_option maxRecDepth 100000 in
theorem l_L_166 : lk9 RL 166 yX10_sure := Or.inl (wi 1748 (by rfl) rfl)
set_option maxRecDepth 100000 in
theorem l_L_167 : lk9 RL 167 yX9_tellFact := Or.inl (wi 1085 (by rfl) rfl)
set_option maxRecDepth 100000 in
theorem l_L_171 : lk9 RL 171 yX10_tellFact := Or.inl (wi 1752 (by rfl) rfl)
set_option maxRecDepth 100000 in
theorem l_L_172 : lk9 RL 172 yX9_tellDone := Or.inl (wi 1093 (by rfl) rfl)
set_option maxRecDepth 100000 in
theorem l_L_175 : lk9 RL 175 yX10_tellDone := Or.inl (wi 1760 (by rfl) rfl)
set_option maxRecDepth 100000 in
theorem l_L_176 : lk9 RL 176 yX9_forget := Or.inl (wi 1097 (by rfl) rfl)
set_option maxRecDepth 100000 in
theorem l_L_179 : lk9 RL 179 yX10_forget := Or.inl (wi 1764 (by rfl) rfl)
set_option maxRecDepth 100000 in
theorem l_L_180 : lk9 RL 180 yX9_who := Or.inl (wi 1101 (by rfl) rfl)
set_option maxRecDepth 100000 in
theorem l_L_183 : lk9 RL 183 yX10_who := Or.inl (wi 1768 (by rfl) rfl)
set_option maxRecDepth 100000 in
theorem l_L_184 : lk9 RL 184 yX9_ask := Or.inl (wi 1114 (by rfl) rfl)
set_option maxRecDepth 100000 in
theorem l_L_187 : lk9 RL 187 yX10_ask := Or.inl (wi 1776 (by rfl) rfl)
set_option maxRecDepth 100000 in
theorem l_L_188 : lk9 RL 188 yX9_hold := Or.inl (wi 905 (by rfl) rfl)
set_option maxRecDepth 100000 in
theorem l_L_191 : lk9 RL 191 yX10_hold := Or.inl (wi 1780 (by rfl) rfl)
set_option maxRecDepth 100000 in
theorem l_L_192 : lk9 RL 192 yX9_restore := Or.inl (wi 913 (by rfl) rfl)
set_option maxRecDepth 100000 in
theorem l_L_195 : lk9 RL 195 yX10_restore := Or.inl (wi 1784 (by rfl) rfl)
set_option maxRecDepth 100000 in
theorem l_L_196 : lk9 RL 196 yX9_count := Or.inl (wi 792 (by rfl) rfl)
set_option maxRecDepth 100000 in
theorem l_L_199 : lk9 RL 199 yX10_count := Or.inl (wi 1788 (by rfl) rfl)
