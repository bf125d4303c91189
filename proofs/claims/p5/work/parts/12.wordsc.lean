set_option maxRecDepth 100000 in
theorem kX12_mourners : KV yX12_mourners cX12_mourners 6 (some .int) 0 := ⟨⟨lw_gi 1557 rfl rfl, lw_gi 1558 rfl rfl⟩, ⟨in_X12, lw_gi 1559 rfl rfl, ⟨by decide +kernel, by decide +kernel, by decide +kernel⟩⟩⟩
set_option maxRecDepth 100000 in
theorem kX12_readsMourner : KV yX12_readsMourner cX12_readsMourner 2 (some .boolean) 0 := ⟨⟨lw_gi 1562 rfl rfl, lw_gi 43 rfl rfl⟩, ⟨in_X12, lw_gi 1563 rfl rfl, ⟨by decide +kernel, by decide +kernel, by decide +kernel⟩⟩⟩
set_option maxRecDepth 100000 in
theorem kJ0_substring_37a41 : KV yJ0_substring_37a41 cJ0_substring_37a41 5 (some (.object "java/lang/String")) 2 := ⟨⟨lw_gi 1566 rfl rfl, lw_gi 1567 rfl rfl⟩, ⟨in_J0, lw_gi 1568 rfl rfl, ⟨by decide +kernel, by decide +kernel, by decide +kernel⟩⟩⟩
set_option maxRecDepth 100000 in
theorem kJ1_newString_b4f7a : KS yJ1_newString_b4f7a cJ1_newString_b4f7a 3 (some (.object "java/lang/String")) 3 := ⟨lw_gi 1571 rfl rfl, ⟨in_J1, lw_gi 1572 rfl rfl, ⟨by decide +kernel, by decide +kernel, by decide +kernel⟩⟩⟩
set_option maxRecDepth 100000 in
theorem kJ7_copyOfRange_39247 : KS yJ7_copyOfRange_39247 cJ7_copyOfRange_39247 3 (some (.array .byte)) 3 := ⟨lw_gi 1577 rfl rfl, ⟨in_J7, lw_gi 1578 rfl rfl, ⟨by decide +kernel, by decide +kernel, by decide +kernel⟩⟩⟩
set_option maxRecDepth 100000 in
theorem kJ7_copyOfRangeByte_39247 : KS yJ7_copyOfRangeByte_39247 cJ7_copyOfRangeByte_39247 5 (some (.array .byte)) 3 := ⟨lw_gi 1580 rfl rfl, ⟨in_J7, lw_gi 1581 rfl rfl, ⟨by decide +kernel, by decide +kernel, by decide +kernel⟩⟩⟩
set_option maxRecDepth 100000 in
theorem kJ7_checkLength_df160 : KS yJ7_checkLength_df160 cJ7_checkLength_df160 2 none 2 := ⟨lw_gi 1583 rfl rfl, ⟨in_J7, lw_gi 1584 rfl rfl, ⟨by decide +kernel, by decide +kernel, by decide +kernel⟩⟩⟩
set_option maxRecDepth 100000 in
theorem kJ0_init_031fb : KI yJ0_init_031fb cJ0_init_031fb 3 none 2 := ⟨⟨rfl, lw_gi 1595 rfl rfl⟩, ⟨in_J0, lw_gi 1596 rfl rfl, ⟨by decide +kernel, by decide +kernel, by decide +kernel⟩⟩⟩
set_option maxRecDepth 100000 in
theorem kJ2_newString_b4f7a : KS yJ2_newString_b4f7a cJ2_newString_b4f7a 5 (some (.object "java/lang/String")) 3 := ⟨lw_gi 1610 rfl rfl, ⟨in_J2, lw_gi 1611 rfl rfl, ⟨by decide +kernel, by decide +kernel, by decide +kernel⟩⟩⟩
set_option maxRecDepth 100000 in
theorem kJ2_compress_39247 : KS yJ2_compress_39247 cJ2_compress_39247 6 (some (.array .byte)) 3 := ⟨lw_gi 1615 rfl rfl, ⟨in_J2, lw_gi 1616 rfl rfl, ⟨by decide +kernel, by decide +kernel, by decide +kernel⟩⟩⟩
set_option maxRecDepth 100000 in
theorem kJ2_compress_5af95 : KS yJ2_compress_5af95 cJ2_compress_5af95 7 (some .int) 5 := ⟨lw_gi 1618 rfl rfl, ⟨in_J2, lw_gi 1619 rfl rfl, ⟨by decide +kernel, by decide +kernel, by decide +kernel⟩⟩⟩
set_option maxRecDepth 100000 in
theorem kJ2_checkBoundsOffCount_d044e : KS yJ2_checkBoundsOffCount_d044e cJ2_checkBoundsOffCount_d044e 3 none 3 := ⟨lw_gi 1621 rfl rfl, ⟨in_J2, lw_gi 1622 rfl rfl, ⟨by decide +kernel, by decide +kernel, by decide +kernel⟩⟩⟩
set_option maxRecDepth 100000 in
theorem kJ0_checkBoundsOffCount_cabcc : KS yJ0_checkBoundsOffCount_cabcc cJ0_checkBoundsOffCount_cabcc 3 (some .int) 3 := ⟨lw_gi 1624 rfl rfl, ⟨in_J0, lw_gi 1625 rfl rfl, ⟨by decide +kernel, by decide +kernel, by decide +kernel⟩⟩⟩
set_option maxRecDepth 100000 in
theorem kJ3_checkFromIndexSize_8c36e : KS yJ3_checkFromIndexSize_8c36e cJ3_checkFromIndexSize_8c36e 4 (some .int) 4 := ⟨lw_gi 1627 rfl rfl, ⟨in_J3, lw_gi 1628 rfl rfl, ⟨by decide +kernel, by decide +kernel, by decide +kernel⟩⟩⟩
set_option maxRecDepth 100000 in
theorem kJ2_newBytesLength_0f7a4 : KS yJ2_newBytesLength_0f7a4 cJ2_newBytesLength_0f7a4 1 (some .int) 1 := ⟨lw_gi 1630 rfl rfl, ⟨in_J2, lw_gi 1631 rfl rfl, ⟨by decide +kernel, by decide +kernel, by decide +kernel⟩⟩⟩
set_option maxRecDepth 100000 in
theorem kJ2_coderFromArrayLen_85cad : KS yJ2_coderFromArrayLen_85cad cJ2_coderFromArrayLen_85cad 2 (some .byte) 2 := ⟨lw_gi 1635 rfl rfl, ⟨in_J2, lw_gi 1636 rfl rfl, ⟨by decide +kernel, by decide +kernel, by decide +kernel⟩⟩⟩
set_option maxRecDepth 100000 in
theorem kX12_weather : KV yX12_weather cX12_weather 3 (some .int) 0 := ⟨⟨lw_gi 1640 rfl rfl, lw_gi 1641 rfl rfl⟩, ⟨in_X12, lw_gi 1642 rfl rfl, ⟨by decide +kernel, by decide +kernel, by decide +kernel⟩⟩⟩
set_option maxRecDepth 100000 in
theorem kX12_rule : KV yX12_rule cX12_rule 2 (some .int) 0 := ⟨⟨lw_gi 1644 rfl rfl, lw_gi 1645 rfl rfl⟩, ⟨in_X12, lw_gi 1646 rfl rfl, ⟨by decide +kernel, by decide +kernel, by decide +kernel⟩⟩⟩
set_option maxRecDepth 100000 in
theorem kX12_readsRule : KV yX12_readsRule cX12_readsRule 3 (some .int) 0 := ⟨⟨lw_gi 1649 rfl rfl, lw_gi 44 rfl rfl⟩, ⟨in_X12, lw_gi 1650 rfl rfl, ⟨by decide +kernel, by decide +kernel, by decide +kernel⟩⟩⟩
set_option maxRecDepth 100000 in
theorem kX12_readsRank : KV yX12_readsRank cX12_readsRank 4 (some .boolean) 1 := ⟨⟨lw_gi 1653 rfl rfl, lw_gi 45 rfl rfl⟩, ⟨in_X12, lw_gi 1654 rfl rfl, ⟨by decide +kernel, by decide +kernel, by decide +kernel⟩⟩⟩
set_option maxRecDepth 100000 in
theorem kX12_readsThing : KV yX12_readsThing cX12_readsThing 2 (some .boolean) 0 := ⟨⟨lw_gi 1657 rfl rfl, lw_gi 46 rfl rfl⟩, ⟨in_X12, lw_gi 1658 rfl rfl, ⟨by decide +kernel, by decide +kernel, by decide +kernel⟩⟩⟩
set_option maxRecDepth 100000 in
theorem kX12_codes : KV yX12_codes cX12_codes 2 none 1 := ⟨⟨lw_gi 1661 rfl rfl, lw_gi 47 rfl rfl⟩, ⟨in_X12, lw_gi 1662 rfl rfl, ⟨by decide +kernel, by decide +kernel, by decide +kernel⟩⟩⟩
set_option maxRecDepth 100000 in
theorem kX12_laysCode : KV yX12_laysCode cX12_laysCode 4 none 2 := ⟨⟨lw_gi 1669 rfl rfl, lw_gi 48 rfl rfl⟩, ⟨in_X12, lw_gi 1670 rfl rfl, ⟨by decide +kernel, by decide +kernel, by decide +kernel⟩⟩⟩
set_option maxRecDepth 100000 in
theorem kX12_hearse : KV yX12_hearse cX12_hearse 3 (some .int) 2 := ⟨⟨lw_gi 1672 rfl rfl, lw_gi 1673 rfl rfl⟩, ⟨in_X12, lw_gi 1674 rfl rfl, ⟨by decide +kernel, by decide +kernel, by decide +kernel⟩⟩⟩
set_option maxRecDepth 100000 in
theorem kX12_isHearse : KV yX12_isHearse cX12_isHearse 2 (some .boolean) 1 := ⟨⟨lw_gi 1677 rfl rfl, lw_gi 49 rfl rfl⟩, ⟨in_X12, lw_gi 1678 rfl rfl, ⟨by decide +kernel, by decide +kernel, by decide +kernel⟩⟩⟩
set_option maxRecDepth 100000 in
theorem kX12_refuse : KV yX12_refuse cX12_refuse 1 (some .int) 0 := ⟨⟨lw_gi 1682 rfl rfl, lw_gi 50 rfl rfl⟩, ⟨in_X12, lw_gi 1683 rfl rfl, ⟨by decide +kernel, by decide +kernel, by decide +kernel⟩⟩⟩
set_option maxRecDepth 100000 in
theorem kX12_paceOf : KV yX12_paceOf cX12_paceOf 3 (some .int) 2 := ⟨⟨lw_gi 1686 rfl rfl, lw_gi 51 rfl rfl⟩, ⟨in_X12, lw_gi 1687 rfl rfl, ⟨by decide +kernel, by decide +kernel, by decide +kernel⟩⟩⟩
set_option maxRecDepth 100000 in
theorem kX12_isOn : KS yX12_isOn cX12_isOn 2 (some .boolean) 2 := ⟨lw_gi 1689 rfl rfl, ⟨in_X12, lw_gi 1690 rfl rfl, ⟨by decide +kernel, by decide +kernel, by decide +kernel⟩⟩⟩
set_option maxRecDepth 100000 in
theorem kX12_freeAhead : KV yX12_freeAhead cX12_freeAhead 4 (some .int) 2 := ⟨⟨lw_gi 1693 rfl rfl, lw_gi 52 rfl rfl⟩, ⟨in_X12, lw_gi 1694 rfl rfl, ⟨by decide +kernel, by decide +kernel, by decide +kernel⟩⟩⟩
set_option maxRecDepth 100000 in
theorem kX12_weatherOn : KV yX12_weatherOn cX12_weatherOn 2 (some .int) 1 := ⟨⟨lw_gi 1697 rfl rfl, lw_gi 53 rfl rfl⟩, ⟨in_X12, lw_gi 1698 rfl rfl, ⟨by decide +kernel, by decide +kernel, by decide +kernel⟩⟩⟩
set_option maxRecDepth 100000 in
theorem kX12_bitsBy : KV yX12_bitsBy cX12_bitsBy 6 (some .int) 3 := ⟨⟨lw_gi 1701 rfl rfl, lw_gi 54 rfl rfl⟩, ⟨in_X12, lw_gi 1702 rfl rfl, ⟨by decide +kernel, by decide +kernel, by decide +kernel⟩⟩⟩
set_option maxRecDepth 100000 in
theorem kX12_ruled : KV yX12_ruled cX12_ruled 4 (some .int) 0 := ⟨⟨lw_gi 1706 rfl rfl, lw_gi 55 rfl rfl⟩, ⟨in_X12, lw_gi 1707 rfl rfl, ⟨by decide +kernel, by decide +kernel, by decide +kernel⟩⟩⟩
set_option maxRecDepth 100000 in
theorem kX12_worked : KS yX12_worked cX12_worked 3 (some .int) 3 := ⟨lw_gi 1709 rfl rfl, ⟨in_X12, lw_gi 1710 rfl rfl, ⟨by decide +kernel, by decide +kernel, by decide +kernel⟩⟩⟩
set_option maxRecDepth 100000 in
theorem kX12_owners : KV yX12_owners cX12_owners 4 (some .int) 1 := ⟨⟨lw_gi 1714 rfl rfl, lw_gi 56 rfl rfl⟩, ⟨in_X12, lw_gi 1715 rfl rfl, ⟨by decide +kernel, by decide +kernel, by decide +kernel⟩⟩⟩
set_option maxRecDepth 100000 in
theorem kX12_mourner : KV yX12_mourner cX12_mourner 3 (some .int) 2 := ⟨⟨lw_gi 1717 rfl rfl, lw_gi 1718 rfl rfl⟩, ⟨in_X12, lw_gi 1719 rfl rfl, ⟨by decide +kernel, by decide +kernel, by decide +kernel⟩⟩⟩
set_option maxRecDepth 100000 in
theorem kX12_isMourner : KV yX12_isMourner cX12_isMourner 2 (some .boolean) 1 := ⟨⟨lw_gi 1722 rfl rfl, lw_gi 57 rfl rfl⟩, ⟨in_X12, lw_gi 1723 rfl rfl, ⟨by decide +kernel, by decide +kernel, by decide +kernel⟩⟩⟩
set_option maxRecDepth 100000 in
theorem kX12_nearest : KV yX12_nearest cX12_nearest 7 (some .int) 2 := ⟨⟨lw_gi 1727 rfl rfl, lw_gi 58 rfl rfl⟩, ⟨in_X12, lw_gi 1728 rfl rfl, ⟨by decide +kernel, by decide +kernel, by decide +kernel⟩⟩⟩
set_option maxRecDepth 100000 in
theorem kX12_sheet : KV yX12_sheet cX12_sheet 10 (some .int) 4 := ⟨⟨lw_gi 1732 rfl rfl, lw_gi 1733 rfl rfl⟩, ⟨in_X12, lw_gi 1734 rfl rfl, ⟨by decide +kernel, by decide +kernel, by decide +kernel⟩⟩⟩
set_option maxRecDepth 100000 in
theorem kX12_isEnded : KS yX12_isEnded cX12_isEnded 2 (some .boolean) 2 := ⟨lw_gi 1737 rfl rfl, ⟨in_X12, lw_gi 1738 rfl rfl, ⟨by decide +kernel, by decide +kernel, by decide +kernel⟩⟩⟩
set_option maxRecDepth 100000 in
theorem kX12_undo : KV yX12_undo cX12_undo 2 (some .int) 0 := ⟨⟨lw_gi 1740 rfl rfl, lw_gi 1741 rfl rfl⟩, ⟨in_X12, lw_gi 1742 rfl rfl, ⟨by decide +kernel, by decide +kernel, by decide +kernel⟩⟩⟩
set_option maxRecDepth 100000 in
theorem kX12_steps : KV yX12_steps cX12_steps 2 (some .int) 1 := ⟨⟨lw_gi 1744 rfl rfl, lw_gi 1745 rfl rfl⟩, ⟨in_X12, lw_gi 1746 rfl rfl, ⟨by decide +kernel, by decide +kernel, by decide +kernel⟩⟩⟩
set_option maxRecDepth 100000 in
theorem kX12_putsBy : KV yX12_putsBy cX12_putsBy 2 none 0 := ⟨⟨lw_gi 1750 rfl rfl, lw_gi 59 rfl rfl⟩, ⟨in_X12, lw_gi 1751 rfl rfl, ⟨by decide +kernel, by decide +kernel, by decide +kernel⟩⟩⟩
set_option maxRecDepth 100000 in
theorem kX12_goesOn : KV yX12_goesOn cX12_goesOn 4 none 2 := ⟨⟨lw_gi 1754 rfl rfl, lw_gi 60 rfl rfl⟩, ⟨in_X12, lw_gi 1755 rfl rfl, ⟨by decide +kernel, by decide +kernel, by decide +kernel⟩⟩⟩
set_option maxRecDepth 100000 in
theorem kX12_stepGoes : KV yX12_stepGoes cX12_stepGoes 3 none 1 := ⟨⟨lw_gi 1758 rfl rfl, lw_gi 61 rfl rfl⟩, ⟨in_X12, lw_gi 1759 rfl rfl, ⟨by decide +kernel, by decide +kernel, by decide +kernel⟩⟩⟩
set_option maxRecDepth 100000 in
theorem kX12_laysLine : KV yX12_laysLine cX12_laysLine 4 none 1 := ⟨⟨lw_gi 1762 rfl rfl, lw_gi 62 rfl rfl⟩, ⟨in_X12, lw_gi 1763 rfl rfl, ⟨by decide +kernel, by decide +kernel, by decide +kernel⟩⟩⟩
set_option maxRecDepth 100000 in
theorem kX12_hearseGoes : KV yX12_hearseGoes cX12_hearseGoes 4 none 2 := ⟨⟨lw_gi 1766 rfl rfl, lw_gi 63 rfl rfl⟩, ⟨in_X12, lw_gi 1767 rfl rfl, ⟨by decide +kernel, by decide +kernel, by decide +kernel⟩⟩⟩
set_option maxRecDepth 100000 in
theorem kX12_goal : KV yX12_goal cX12_goal 10 (some .int) 3 := ⟨⟨lw_gi 1770 rfl rfl, lw_gi 64 rfl rfl⟩, ⟨in_X12, lw_gi 1771 rfl rfl, ⟨by decide +kernel, by decide +kernel, by decide +kernel⟩⟩⟩
set_option maxRecDepth 100000 in
theorem kX12_mournerGoes : KV yX12_mournerGoes cX12_mournerGoes 6 none 2 := ⟨⟨lw_gi 1774 rfl rfl, lw_gi 65 rfl rfl⟩, ⟨in_X12, lw_gi 1775 rfl rfl, ⟨by decide +kernel, by decide +kernel, by decide +kernel⟩⟩⟩
set_option maxRecDepth 100000 in
theorem kX12_enters : KV yX12_enters cX12_enters 3 none 1 := ⟨⟨lw_gi 1778 rfl rfl, lw_gi 66 rfl rfl⟩, ⟨in_X12, lw_gi 1779 rfl rfl, ⟨by decide +kernel, by decide +kernel, by decide +kernel⟩⟩⟩
set_option maxRecDepth 100000 in
theorem kX12_adds : KV yX12_adds cX12_adds 3 (some .int) 1 := ⟨⟨lw_gi 1782 rfl rfl, lw_gi 67 rfl rfl⟩, ⟨in_X12, lw_gi 1783 rfl rfl, ⟨by decide +kernel, by decide +kernel, by decide +kernel⟩⟩⟩
set_option maxRecDepth 100000 in
theorem kX12_turnsTo : KV yX12_turnsTo cX12_turnsTo 2 (some .int) 1 := ⟨⟨lw_gi 1785 rfl rfl, lw_gi 1786 rfl rfl⟩, ⟨in_X12, lw_gi 1787 rfl rfl, ⟨by decide +kernel, by decide +kernel, by decide +kernel⟩⟩⟩
set_option maxRecDepth 100000 in
theorem kX12_turnsOne : KV yX12_turnsOne cX12_turnsOne 4 (some .int) 2 := ⟨⟨lw_gi 1790 rfl rfl, lw_gi 68 rfl rfl⟩, ⟨in_X12, lw_gi 1791 rfl rfl, ⟨by decide +kernel, by decide +kernel, by decide +kernel⟩⟩⟩
set_option maxRecDepth 100000 in
theorem kX12_counted : KV yX12_counted cX12_counted 2 (some .int) 1 := ⟨⟨lw_gi 1794 rfl rfl, lw_gi 69 rfl rfl⟩, ⟨in_X12, lw_gi 1795 rfl rfl, ⟨by decide +kernel, by decide +kernel, by decide +kernel⟩⟩⟩
set_option maxRecDepth 100000 in
theorem kX12_pushes : KV yX12_pushes cX12_pushes 3 (some .int) 2 := ⟨⟨lw_gi 1797 rfl rfl, lw_gi 1798 rfl rfl⟩, ⟨in_X12, lw_gi 1799 rfl rfl, ⟨by decide +kernel, by decide +kernel, by decide +kernel⟩⟩⟩
set_option maxRecDepth 100000 in
theorem kX12_pushesOne : KV yX12_pushesOne cX12_pushesOne 4 (some .int) 3 := ⟨⟨lw_gi 1802 rfl rfl, lw_gi 70 rfl rfl⟩, ⟨in_X12, lw_gi 1803 rfl rfl, ⟨by decide +kernel, by decide +kernel, by decide +kernel⟩⟩⟩
set_option maxRecDepth 100000 in
theorem kX12_swaps : KV yX12_swaps cX12_swaps 3 (some .int) 2 := ⟨⟨lw_gi 1807 rfl rfl, lw_gi 1808 rfl rfl⟩, ⟨in_X12, lw_gi 1809 rfl rfl, ⟨by decide +kernel, by decide +kernel, by decide +kernel⟩⟩⟩
set_option maxRecDepth 100000 in
theorem kX12_swapsTwo : KV yX12_swapsTwo cX12_swapsTwo 4 (some .int) 2 := ⟨⟨lw_gi 1812 rfl rfl, lw_gi 71 rfl rfl⟩, ⟨in_X12, lw_gi 1813 rfl rfl, ⟨by decide +kernel, by decide +kernel, by decide +kernel⟩⟩⟩
set_option maxRecDepth 100000 in
theorem kX12_hour : KV yX12_hour cX12_hour 5 (some .int) 0 := ⟨⟨lw_gi 1815 rfl rfl, lw_gi 1816 rfl rfl⟩, ⟨in_X12, lw_gi 1817 rfl rfl, ⟨by decide +kernel, by decide +kernel, by decide +kernel⟩⟩⟩
set_option maxRecDepth 100000 in
theorem kX12_readsAct : KV yX12_readsAct cX12_readsAct 2 (some .boolean) 0 := ⟨⟨lw_gi 1820 rfl rfl, lw_gi 72 rfl rfl⟩, ⟨in_X12, lw_gi 1821 rfl rfl, ⟨by decide +kernel, by decide +kernel, by decide +kernel⟩⟩⟩
set_option maxRecDepth 100000 in
theorem kX12_digitIn : KV yX12_digitIn cX12_digitIn 3 (some .int) 2 := ⟨⟨lw_gi 1825 rfl rfl, lw_gi 73 rfl rfl⟩, ⟨in_X12, lw_gi 1826 rfl rfl, ⟨by decide +kernel, by decide +kernel, by decide +kernel⟩⟩⟩
set_option maxRecDepth 100000 in
theorem kX12_does : KV yX12_does cX12_does 4 (some .boolean) 1 := ⟨⟨lw_gi 1829 rfl rfl, lw_gi 74 rfl rfl⟩, ⟨in_X12, lw_gi 1830 rfl rfl, ⟨by decide +kernel, by decide +kernel, by decide +kernel⟩⟩⟩
set_option maxRecDepth 100000 in
theorem kX12_line : KV yX12_line cX12_line 2 (some .int) 0 := ⟨⟨lw_gi 1832 rfl rfl, lw_gi 1833 rfl rfl⟩, ⟨in_X12, lw_gi 1834 rfl rfl, ⟨by decide +kernel, by decide +kernel, by decide +kernel⟩⟩⟩
set_option maxRecDepth 100000 in
theorem kX12_ahead : KV yX12_ahead cX12_ahead 3 (some .int) 1 := ⟨⟨lw_gi 1836 rfl rfl, lw_gi 1837 rfl rfl⟩, ⟨in_X12, lw_gi 1838 rfl rfl, ⟨by decide +kernel, by decide +kernel, by decide +kernel⟩⟩⟩
set_option maxRecDepth 100000 in
theorem kX12_copies : KV yX12_copies cX12_copies 2 none 0 := ⟨⟨lw_gi 1842 rfl rfl, lw_gi 75 rfl rfl⟩, ⟨in_X12, lw_gi 1843 rfl rfl, ⟨by decide +kernel, by decide +kernel, by decide +kernel⟩⟩⟩
set_option maxRecDepth 100000 in
theorem kX12_arrives : KV yX12_arrives cX12_arrives 3 (some .int) 1 := ⟨⟨lw_gi 1845 rfl rfl, lw_gi 1846 rfl rfl⟩, ⟨in_X12, lw_gi 1847 rfl rfl, ⟨by decide +kernel, by decide +kernel, by decide +kernel⟩⟩⟩
set_option maxRecDepth 100000 in
theorem kX12_jam : KV yX12_jam cX12_jam 4 (some .int) 1 := ⟨⟨lw_gi 1849 rfl rfl, lw_gi 1850 rfl rfl⟩, ⟨in_X12, lw_gi 1851 rfl rfl, ⟨by decide +kernel, by decide +kernel, by decide +kernel⟩⟩⟩
set_option maxRecDepth 100000 in
theorem kX12_passes : KV yX12_passes cX12_passes 4 (some .int) 2 := ⟨⟨lw_gi 1853 rfl rfl, lw_gi 1854 rfl rfl⟩, ⟨in_X12, lw_gi 1855 rfl rfl, ⟨by decide +kernel, by decide +kernel, by decide +kernel⟩⟩⟩
set_option maxRecDepth 100000 in
theorem kX12_isAhead : KS yX12_isAhead cX12_isAhead 3 (some .boolean) 3 := ⟨lw_gi 1857 rfl rfl, ⟨in_X12, lw_gi 1858 rfl rfl, ⟨by decide +kernel, by decide +kernel, by decide +kernel⟩⟩⟩
set_option maxRecDepth 100000 in
theorem kX12_ends : KV yX12_ends cX12_ends 3 (some .int) 1 := ⟨⟨lw_gi 1860 rfl rfl, lw_gi 1861 rfl rfl⟩, ⟨in_X12, lw_gi 1862 rfl rfl, ⟨by decide +kernel, by decide +kernel, by decide +kernel⟩⟩⟩
set_option maxRecDepth 100000 in
theorem kX12_right : KV yX12_right cX12_right 2 (some .int) 0 := ⟨⟨lw_gi 1864 rfl rfl, lw_gi 1865 rfl rfl⟩, ⟨in_X12, lw_gi 1866 rfl rfl, ⟨by decide +kernel, by decide +kernel, by decide +kernel⟩⟩⟩
set_option maxRecDepth 100000 in
theorem kX12_rightThen : KV yX12_rightThen cX12_rightThen 3 (some .int) 0 := ⟨⟨lw_gi 1869 rfl rfl, lw_gi 76 rfl rfl⟩, ⟨in_X12, lw_gi 1870 rfl rfl, ⟨by decide +kernel, by decide +kernel, by decide +kernel⟩⟩⟩
set_option maxRecDepth 100000 in
theorem kX12_endedBy : KV yX12_endedBy cX12_endedBy 5 (some .int) 2 := ⟨⟨lw_gi 1873 rfl rfl, lw_gi 77 rfl rfl⟩, ⟨in_X12, lw_gi 1874 rfl rfl, ⟨by decide +kernel, by decide +kernel, by decide +kernel⟩⟩⟩
set_option maxRecDepth 100000 in
theorem kX12_order : KV yX12_order cX12_order 2 (some .int) 0 := ⟨⟨lw_gi 1876 rfl rfl, lw_gi 1877 rfl rfl⟩, ⟨in_X12, lw_gi 1878 rfl rfl, ⟨by decide +kernel, by decide +kernel, by decide +kernel⟩⟩⟩
set_option maxRecDepth 100000 in
theorem kX12_places : KV yX12_places cX12_places 5 none 2 := ⟨⟨lw_gi 1881 rfl rfl, lw_gi 78 rfl rfl⟩, ⟨in_X12, lw_gi 1882 rfl rfl, ⟨by decide +kernel, by decide +kernel, by decide +kernel⟩⟩⟩
set_option maxRecDepth 100000 in
theorem kX12_has : KS yX12_has cX12_has 2 (some .boolean) 2 := ⟨lw_gi 1884 rfl rfl, ⟨in_X12, lw_gi 1885 rfl rfl, ⟨by decide +kernel, by decide +kernel, by decide +kernel⟩⟩⟩
set_option maxRecDepth 100000 in
theorem kX12_stands : KV yX12_stands cX12_stands 5 (some .int) 1 := ⟨⟨lw_gi 1887 rfl rfl, lw_gi 1888 rfl rfl⟩, ⟨in_X12, lw_gi 1889 rfl rfl, ⟨by decide +kernel, by decide +kernel, by decide +kernel⟩⟩⟩
set_option maxRecDepth 100000 in
theorem kX12_when : KV yX12_when cX12_when 7 (some .int) 1 := ⟨⟨lw_gi 1891 rfl rfl, lw_gi 1892 rfl rfl⟩, ⟨in_X12, lw_gi 1893 rfl rfl, ⟨by decide +kernel, by decide +kernel, by decide +kernel⟩⟩⟩
set_option maxRecDepth 100000 in
theorem kX12_mends : KV yX12_mends cX12_mends 7 (some .int) 1 := ⟨⟨lw_gi 1895 rfl rfl, lw_gi 1896 rfl rfl⟩, ⟨in_X12, lw_gi 1897 rfl rfl, ⟨by decide +kernel, by decide +kernel, by decide +kernel⟩⟩⟩
set_option maxRecDepth 100000 in
theorem kX12_misleads : KV yX12_misleads cX12_misleads 6 (some .int) 0 := ⟨⟨lw_gi 1900 rfl rfl, lw_gi 1901 rfl rfl⟩, ⟨in_X12, lw_gi 1902 rfl rfl, ⟨by decide +kernel, by decide +kernel, by decide +kernel⟩⟩⟩
set_option maxRecDepth 100000 in
theorem kX12_crowd : KV yX12_crowd cX12_crowd 3 (some .int) 0 := ⟨⟨lw_gi 1904 rfl rfl, lw_gi 1905 rfl rfl⟩, ⟨in_X12, lw_gi 1906 rfl rfl, ⟨by decide +kernel, by decide +kernel, by decide +kernel⟩⟩⟩
set_option maxRecDepth 100000 in
theorem kX12_shares : KV yX12_shares cX12_shares 3 (some .int) 1 := ⟨⟨lw_gi 1908 rfl rfl, lw_gi 1909 rfl rfl⟩, ⟨in_X12, lw_gi 1910 rfl rfl, ⟨by decide +kernel, by decide +kernel, by decide +kernel⟩⟩⟩
set_option maxRecDepth 100000 in
theorem kX12_sharesFrom : KV yX12_sharesFrom cX12_sharesFrom 6 none 4 := ⟨⟨lw_gi 1914 rfl rfl, lw_gi 79 rfl rfl⟩, ⟨in_X12, lw_gi 1915 rfl rfl, ⟨by decide +kernel, by decide +kernel, by decide +kernel⟩⟩⟩
set_option maxRecDepth 100000 in
theorem kX12_strangers : KV yX12_strangers cX12_strangers 7 (some .int) 0 := ⟨⟨lw_gi 1917 rfl rfl, lw_gi 1918 rfl rfl⟩, ⟨in_X12, lw_gi 1919 rfl rfl, ⟨by decide +kernel, by decide +kernel, by decide +kernel⟩⟩⟩
set_option maxRecDepth 100000 in
theorem kX12_doubts : KV yX12_doubts cX12_doubts 6 (some .int) 0 := ⟨⟨lw_gi 1921 rfl rfl, lw_gi 1922 rfl rfl⟩, ⟨in_X12, lw_gi 1923 rfl rfl, ⟨by decide +kernel, by decide +kernel, by decide +kernel⟩⟩⟩
set_option maxRecDepth 100000 in
theorem kX12_heard : KV yX12_heard cX12_heard 4 (some .int) 2 := ⟨⟨lw_gi 1925 rfl rfl, lw_gi 1926 rfl rfl⟩, ⟨in_X12, lw_gi 1927 rfl rfl, ⟨by decide +kernel, by decide +kernel, by decide +kernel⟩⟩⟩
set_option maxRecDepth 100000 in
theorem kX12_forget : KV yX12_forget cX12_forget 2 (some .int) 0 := ⟨⟨lw_gi 1929 rfl rfl, lw_gi 1930 rfl rfl⟩, ⟨in_X12, lw_gi 1931 rfl rfl, ⟨by decide +kernel, by decide +kernel, by decide +kernel⟩⟩⟩
set_option maxRecDepth 100000 in
theorem kX12_fits : KV yX12_fits cX12_fits 5 (some .int) 0 := ⟨⟨lw_gi 1933 rfl rfl, lw_gi 1934 rfl rfl⟩, ⟨in_X12, lw_gi 1935 rfl rfl, ⟨by decide +kernel, by decide +kernel, by decide +kernel⟩⟩⟩
set_option maxRecDepth 100000 in
theorem kX12_isSo : KV yX12_isSo cX12_isSo 4 (some .boolean) 3 := ⟨⟨lw_gi 1938 rfl rfl, lw_gi 80 rfl rfl⟩, ⟨in_X12, lw_gi 1939 rfl rfl, ⟨by decide +kernel, by decide +kernel, by decide +kernel⟩⟩⟩
set_option maxRecDepth 100000 in
theorem kX12_rains : KV yX12_rains cX12_rains 12 (some .int) 3 := ⟨⟨lw_gi 1941 rfl rfl, lw_gi 1942 rfl rfl⟩, ⟨in_X12, lw_gi 1943 rfl rfl, ⟨by decide +kernel, by decide +kernel, by decide +kernel⟩⟩⟩
set_option maxRecDepth 100000 in
theorem kX12_common : KS yX12_common cX12_common 4 (some .long) 2 := ⟨lw_gi 1947 rfl rfl, ⟨in_X12, lw_gi 1948 rfl rfl, ⟨by decide +kernel, by decide +kernel, by decide +kernel⟩⟩⟩
set_option maxRecDepth 100000 in
theorem kX12_law : KV yX12_law cX12_law 5 (some .int) 0 := ⟨⟨lw_gi 1950 rfl rfl, lw_gi 1951 rfl rfl⟩, ⟨in_X12, lw_gi 1952 rfl rfl, ⟨by decide +kernel, by decide +kernel, by decide +kernel⟩⟩⟩
set_option maxRecDepth 100000 in
theorem kX12_rests : KV yX12_rests cX12_rests 5 (some .int) 1 := ⟨⟨lw_gi 1954 rfl rfl, lw_gi 1955 rfl rfl⟩, ⟨in_X12, lw_gi 1956 rfl rfl, ⟨by decide +kernel, by decide +kernel, by decide +kernel⟩⟩⟩
set_option maxRecDepth 100000 in
theorem kX12_isRest : KS yX12_isRest cX12_isRest 5 (some .boolean) 3 := ⟨lw_gi 1959 rfl rfl, ⟨in_X12, lw_gi 1960 rfl rfl, ⟨by decide +kernel, by decide +kernel, by decide +kernel⟩⟩⟩
set_option maxRecDepth 100000 in
theorem kX12_gets : KS yX12_gets cX12_gets 3 (some .int) 3 := ⟨lw_gi 1962 rfl rfl, ⟨in_X12, lw_gi 1963 rfl rfl, ⟨by decide +kernel, by decide +kernel, by decide +kernel⟩⟩⟩
set_option maxRecDepth 100000 in
theorem kX12_years : KV yX12_years cX12_years 6 (some .int) 2 := ⟨⟨lw_gi 1965 rfl rfl, lw_gi 1966 rfl rfl⟩, ⟨in_X12, lw_gi 1967 rfl rfl, ⟨by decide +kernel, by decide +kernel, by decide +kernel⟩⟩⟩
set_option maxRecDepth 100000 in
theorem kX12_draws : KV yX12_draws cX12_draws 2 (some .int) 1 := ⟨⟨lw_gi 1970 rfl rfl, lw_gi 81 rfl rfl⟩, ⟨in_X12, lw_gi 1971 rfl rfl, ⟨by decide +kernel, by decide +kernel, by decide +kernel⟩⟩⟩
set_option maxRecDepth 100000 in
theorem kX12_keep : KV yX12_keep cX12_keep 3 (some .boolean) 1 := ⟨⟨lw_gi 1974 rfl rfl, lw_gi 1975 rfl rfl⟩, ⟨in_X12, lw_gi 1976 rfl rfl, ⟨by decide +kernel, by decide +kernel, by decide +kernel⟩⟩⟩
set_option maxRecDepth 100000 in
theorem kX12_again : KV yX12_again cX12_again 3 (some .boolean) 1 := ⟨⟨lw_gi 1979 rfl rfl, lw_gi 1980 rfl rfl⟩, ⟨in_X12, lw_gi 1981 rfl rfl, ⟨by decide +kernel, by decide +kernel, by decide +kernel⟩⟩⟩
set_option maxRecDepth 100000 in
theorem kX12_count : KV yX12_count cX12_count 4 (some .int) 1 := ⟨⟨lw_gi 1983 rfl rfl, lw_gi 1984 rfl rfl⟩, ⟨in_X12, lw_gi 1985 rfl rfl, ⟨by decide +kernel, by decide +kernel, by decide +kernel⟩⟩⟩
set_option maxRecDepth 100000 in
theorem kX12_row : KV yX12_row cX12_row 2 (some .long) 1 := ⟨⟨lw_gi 1987 rfl rfl, lw_gi 1988 rfl rfl⟩, ⟨in_X12, lw_gi 1989 rfl rfl, ⟨by decide +kernel, by decide +kernel, by decide +kernel⟩⟩⟩
