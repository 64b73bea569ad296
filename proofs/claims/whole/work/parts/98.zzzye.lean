/-! ===== bus, master and calls over all drives, places of the entries apart ===== -/
set_option maxRecDepth 20000
theorem gT_told : cgood 65536 c_told = true := by decide +kernel
theorem fT_told : cfine zT 65536 c_told = true := by decide +kernel
theorem kT_told : ruse kR zH c_told zT c_told = true := by decide +kernel
theorem sT_told {X : pX} : SREL X pF pdfl mt_all kR zT c_told := SREL_use kR_x kR_0 s_told gT_told fT_told kT_told
theorem gT_putc : cgood 65536 c_putc = true := by decide +kernel
theorem fT_putc : cfine zT 65536 c_putc = true := by decide +kernel
theorem kT_putc : ruse kR zH c_putc zT c_putc = true := by decide +kernel
theorem sT_putc {X : pX} : SREL X pF pdfl mt_all kR zT c_putc := SREL_use kR_x kR_0 s_putc gT_putc fT_putc kT_putc
theorem gT_clearc : cgood 65536 c_clearc = true := by decide +kernel
theorem fT_clearc : cfine zT 65536 c_clearc = true := by decide +kernel
theorem kT_clearc : ruse kR zH c_clearc zT c_clearc = true := by decide +kernel
theorem sT_clearc {X : pX} : SREL X pF pdfl mt_all kR zT c_clearc := SREL_use kR_x kR_0 s_clearc gT_clearc fT_clearc kT_clearc
theorem gT_bufc : cgood 65536 c_bufc = true := by decide +kernel
theorem fT_bufc : cfine zT 65536 c_bufc = true := by decide +kernel
theorem kT_bufc : ruse kR zH c_bufc zT c_bufc = true := by decide +kernel
theorem sT_bufc {X : pX} : SREL X pF pdfl mt_all kR zT c_bufc := SREL_use kR_x kR_0 s_bufc gT_bufc fT_bufc kT_bufc
theorem gT_countc : cgood 65536 c_countc = true := by decide +kernel
theorem fT_countc : cfine zT 65536 c_countc = true := by decide +kernel
theorem kT_countc : ruse kR zH c_countc zT c_countc = true := by decide +kernel
theorem sT_countc {X : pX} : SREL X pF pdfl mt_all kR zT c_countc := SREL_use kR_x kR_0 s_countc gT_countc fT_countc kT_countc
theorem gT_heardc : cgood 65536 c_heardc = true := by decide +kernel
theorem fT_heardc : cfine zT 65536 c_heardc = true := by decide +kernel
theorem kT_heardc : ruse kR zH c_heardc zT c_heardc = true := by decide +kernel
theorem sT_heardc {X : pX} : SREL X pF pdfl mt_all kR zT c_heardc := SREL_use kR_x kR_0 s_heardc gT_heardc fT_heardc kT_heardc
theorem gT_plannedc : cgood 65536 c_plannedc = true := by decide +kernel
theorem fT_plannedc : cfine zT 65536 c_plannedc = true := by decide +kernel
theorem kT_plannedc : ruse kR zH c_plannedc zT c_plannedc = true := by decide +kernel
theorem sT_plannedc {X : pX} : SREL X pF pdfl mt_all kR zT c_plannedc := SREL_use kR_x kR_0 s_plannedc gT_plannedc fT_plannedc kT_plannedc
theorem gT_disturbc : cgood 65536 c_disturbc = true := by decide +kernel
theorem fT_disturbc : cfine zT 65536 c_disturbc = true := by decide +kernel
theorem kT_disturbc : ruse kR zH c_disturbc zT c_disturbc = true := by decide +kernel
theorem sT_disturbc {X : pX} : SREL X pF pdfl mt_all kR zT c_disturbc := SREL_use kR_x kR_0 s_disturbc gT_disturbc fT_disturbc kT_disturbc
theorem gT_stationc : cgood 65536 c_stationc = true := by decide +kernel
theorem fT_stationc : cfine zT 65536 c_stationc = true := by decide +kernel
theorem kT_stationc : ruse kR zH c_stationc zT c_stationc = true := by decide +kernel
theorem sT_stationc {X : pX} : SREL X pF pdfl mt_all kR zT c_stationc := SREL_use kR_x kR_0 s_stationc gT_stationc fT_stationc kT_stationc
theorem gT_planc : cgood 65536 c_planc = true := by decide +kernel
theorem fT_planc : cfine zT 65536 c_planc = true := by decide +kernel
theorem kT_planc : ruse kR zH c_planc zT c_planc = true := by decide +kernel
theorem sT_planc {X : pX} : SREL X pF pdfl mt_all kR zT c_planc := SREL_use kR_x kR_0 s_planc gT_planc fT_planc kT_planc
theorem gT_inputsc : cgood 65536 c_inputsc = true := by decide +kernel
theorem fT_inputsc : cfine zT 65536 c_inputsc = true := by decide +kernel
theorem kT_inputsc : ruse kR zH c_inputsc zT c_inputsc = true := by decide +kernel
theorem sT_inputsc {X : pX} : SREL X pF pdfl mt_all kR zT c_inputsc := SREL_use kR_x kR_0 s_inputsc gT_inputsc fT_inputsc kT_inputsc
theorem gT_placec : cgood 65536 c_placec = true := by decide +kernel
theorem fT_placec : cfine zT 65536 c_placec = true := by decide +kernel
theorem kT_placec : ruse kR zH c_placec zT c_placec = true := by decide +kernel
theorem sT_placec {X : pX} : SREL X pF pdfl mt_all kR zT c_placec := SREL_use kR_x kR_0 s_placec gT_placec fT_placec kT_placec
theorem gT_state0 : cgood 65536 c_state0 = true := by decide +kernel
theorem fT_state0 : cfine zT 65536 c_state0 = true := by decide +kernel
theorem kT_state0 : ruse kR zH c_state0 zT c_state0 = true := by decide +kernel
theorem sT_state0 {X : pX} : SREL X pF pdfl mt_all kR zT c_state0 := SREL_use kR_x kR_0 s_state0 gT_state0 fT_state0 kT_state0
theorem gT_state1 : cgood 65536 c_state1 = true := by decide +kernel
theorem fT_state1 : cfine zT 65536 c_state1 = true := by decide +kernel
theorem kT_state1 : ruse kR zH c_state1 zT c_state1 = true := by decide +kernel
theorem sT_state1 {X : pX} : SREL X pF pdfl mt_all kR zT c_state1 := SREL_use kR_x kR_0 s_state1 gT_state1 fT_state1 kT_state1
theorem gT_state2 : cgood 65536 c_state2 = true := by decide +kernel
theorem fT_state2 : cfine zT 65536 c_state2 = true := by decide +kernel
theorem kT_state2 : ruse kR zH c_state2 zT c_state2 = true := by decide +kernel
theorem sT_state2 {X : pX} : SREL X pF pdfl mt_all kR zT c_state2 := SREL_use kR_x kR_0 s_state2 gT_state2 fT_state2 kT_state2
theorem gT_state3 : cgood 65536 c_state3 = true := by decide +kernel
theorem fT_state3 : cfine zT 65536 c_state3 = true := by decide +kernel
theorem kT_state3 : ruse kR zH c_state3 zT c_state3 = true := by decide +kernel
theorem sT_state3 {X : pX} : SREL X pF pdfl mt_all kR zT c_state3 := SREL_use kR_x kR_0 s_state3 gT_state3 fT_state3 kT_state3
theorem gT_state5 : cgood 65536 c_state5 = true := by decide +kernel
theorem fT_state5 : cfine zT 65536 c_state5 = true := by decide +kernel
theorem kT_state5 : ruse kR zH c_state5 zT c_state5 = true := by decide +kernel
theorem sT_state5 {X : pX} : SREL X pF pdfl mt_all kR zT c_state5 := SREL_use kR_x kR_0 s_state5 gT_state5 fT_state5 kT_state5
theorem gT_state7 : cgood 65536 c_state7 = true := by decide +kernel
theorem fT_state7 : cfine zT 65536 c_state7 = true := by decide +kernel
theorem kT_state7 : ruse kR zH c_state7 zT c_state7 = true := by decide +kernel
theorem sT_state7 {X : pX} : SREL X pF pdfl mt_all kR zT c_state7 := SREL_use kR_x kR_0 s_state7 gT_state7 fT_state7 kT_state7
theorem gT_state8 : cgood 65536 c_state8 = true := by decide +kernel
theorem fT_state8 : cfine zT 65536 c_state8 = true := by decide +kernel
theorem kT_state8 : ruse kR zH c_state8 zT c_state8 = true := by decide +kernel
theorem sT_state8 {X : pX} : SREL X pF pdfl mt_all kR zT c_state8 := SREL_use kR_x kR_0 s_state8 gT_state8 fT_state8 kT_state8
theorem gT_place2 : cgood 65536 c_place2 = true := by decide +kernel
theorem fT_place2 : cfine zT 65536 c_place2 = true := by decide +kernel
theorem kT_place2 : ruse kR zH c_place2 zT c_place2 = true := by decide +kernel
theorem sT_place2 {X : pX} : SREL X pF pdfl mt_all kR zT c_place2 := SREL_use kR_x kR_0 s_place2 gT_place2 fT_place2 kT_place2
theorem gT_place3 : cgood 65536 c_place3 = true := by decide +kernel
theorem fT_place3 : cfine zT 65536 c_place3 = true := by decide +kernel
theorem kT_place3 : ruse kR zH c_place3 zT c_place3 = true := by decide +kernel
theorem sT_place3 {X : pX} : SREL X pF pdfl mt_all kR zT c_place3 := SREL_use kR_x kR_0 s_place3 gT_place3 fT_place3 kT_place3
theorem gT_handc : cgood 65536 c_handc = true := by decide +kernel
theorem fT_handc : cfine zT 65536 c_handc = true := by decide +kernel
theorem kT_handc : ruse kR zH c_handc zT c_handc = true := by decide +kernel
theorem sT_handc {X : pX} : SREL X pF pdfl mt_all kR zT c_handc := SREL_use kR_x kR_0 s_handc gT_handc fT_handc kT_handc
theorem gT_log0 : cgood 65536 c_log0 = true := by decide +kernel
theorem fT_log0 : cfine zT 65536 c_log0 = true := by decide +kernel
theorem kT_log0 : ruse kR zH c_log0 zT c_log0 = true := by decide +kernel
theorem sT_log0 {X : pX} : SREL X pF pdfl mt_all kR zT c_log0 := SREL_use kR_x kR_0 s_log0 gT_log0 fT_log0 kT_log0
theorem gT_log1 : cgood 65536 c_log1 = true := by decide +kernel
theorem fT_log1 : cfine zT 65536 c_log1 = true := by decide +kernel
theorem kT_log1 : ruse kR zH c_log1 zT c_log1 = true := by decide +kernel
theorem sT_log1 {X : pX} : SREL X pF pdfl mt_all kR zT c_log1 := SREL_use kR_x kR_0 s_log1 gT_log1 fT_log1 kT_log1
theorem gT_log2 : cgood 65536 c_log2 = true := by decide +kernel
theorem fT_log2 : cfine zT 65536 c_log2 = true := by decide +kernel
theorem kT_log2 : ruse kR zH c_log2 zT c_log2 = true := by decide +kernel
theorem sT_log2 {X : pX} : SREL X pF pdfl mt_all kR zT c_log2 := SREL_use kR_x kR_0 s_log2 gT_log2 fT_log2 kT_log2
theorem gT_log3 : cgood 65536 c_log3 = true := by decide +kernel
theorem fT_log3 : cfine zT 65536 c_log3 = true := by decide +kernel
theorem kT_log3 : ruse kR zH c_log3 zT c_log3 = true := by decide +kernel
theorem sT_log3 {X : pX} : SREL X pF pdfl mt_all kR zT c_log3 := SREL_use kR_x kR_0 s_log3 gT_log3 fT_log3 kT_log3
theorem gT_log4 : cgood 65536 c_log4 = true := by decide +kernel
theorem fT_log4 : cfine zT 65536 c_log4 = true := by decide +kernel
theorem kT_log4 : ruse kR zH c_log4 zT c_log4 = true := by decide +kernel
theorem sT_log4 {X : pX} : SREL X pF pdfl mt_all kR zT c_log4 := SREL_use kR_x kR_0 s_log4 gT_log4 fT_log4 kT_log4
theorem gT_log5 : cgood 65536 c_log5 = true := by decide +kernel
theorem fT_log5 : cfine zT 65536 c_log5 = true := by decide +kernel
theorem kT_log5 : ruse kR zH c_log5 zT c_log5 = true := by decide +kernel
theorem sT_log5 {X : pX} : SREL X pF pdfl mt_all kR zT c_log5 := SREL_use kR_x kR_0 s_log5 gT_log5 fT_log5 kT_log5
theorem gT_bankc : cgood 65536 c_bankc = true := by decide +kernel
theorem fT_bankc : cfine zT 65536 c_bankc = true := by decide +kernel
theorem kT_bankc : ruse kR zH c_bankc zT c_bankc = true := by decide +kernel
theorem sT_bankc {X : pX} : SREL X pF pdfl mt_all kR zT c_bankc := SREL_use kR_x kR_0 s_bankc gT_bankc fT_bankc kT_bankc
theorem gT_scratchc : cgood 65536 c_scratchc = true := by decide +kernel
theorem fT_scratchc : cfine zT 65536 c_scratchc = true := by decide +kernel
theorem kT_scratchc : ruse kR zH c_scratchc zT c_scratchc = true := by decide +kernel
theorem sT_scratchc {X : pX} : SREL X pF pdfl mt_all kR zT c_scratchc := SREL_use kR_x kR_0 s_scratchc gT_scratchc fT_scratchc kT_scratchc
theorem gT_set0_1 : cgood 65536 c_set0_1 = true := by decide +kernel
theorem fT_set0_1 : cfine zT 65536 c_set0_1 = true := by decide +kernel
theorem kT_set0_1 : ruse kR zH c_set0_1 zT c_set0_1 = true := by decide +kernel
theorem sT_set0_1 {X : pX} : SREL X pF pdfl mt_all kR zT c_set0_1 := SREL_use kR_x kR_0 s_set0_1 gT_set0_1 fT_set0_1 kT_set0_1
theorem gT_set0_2 : cgood 65536 c_set0_2 = true := by decide +kernel
theorem fT_set0_2 : cfine zT 65536 c_set0_2 = true := by decide +kernel
theorem kT_set0_2 : ruse kR zH c_set0_2 zT c_set0_2 = true := by decide +kernel
theorem sT_set0_2 {X : pX} : SREL X pF pdfl mt_all kR zT c_set0_2 := SREL_use kR_x kR_0 s_set0_2 gT_set0_2 fT_set0_2 kT_set0_2
theorem gT_set0_4 : cgood 65536 c_set0_4 = true := by decide +kernel
theorem fT_set0_4 : cfine zT 65536 c_set0_4 = true := by decide +kernel
theorem kT_set0_4 : ruse kR zH c_set0_4 zT c_set0_4 = true := by decide +kernel
theorem sT_set0_4 {X : pX} : SREL X pF pdfl mt_all kR zT c_set0_4 := SREL_use kR_x kR_0 s_set0_4 gT_set0_4 fT_set0_4 kT_set0_4
theorem gT_set1_1 : cgood 65536 c_set1_1 = true := by decide +kernel
theorem fT_set1_1 : cfine zT 65536 c_set1_1 = true := by decide +kernel
theorem kT_set1_1 : ruse kR zH c_set1_1 zT c_set1_1 = true := by decide +kernel
theorem sT_set1_1 {X : pX} : SREL X pF pdfl mt_all kR zT c_set1_1 := SREL_use kR_x kR_0 s_set1_1 gT_set1_1 fT_set1_1 kT_set1_1
theorem gT_set1_2 : cgood 65536 c_set1_2 = true := by decide +kernel
theorem fT_set1_2 : cfine zT 65536 c_set1_2 = true := by decide +kernel
theorem kT_set1_2 : ruse kR zH c_set1_2 zT c_set1_2 = true := by decide +kernel
theorem sT_set1_2 {X : pX} : SREL X pF pdfl mt_all kR zT c_set1_2 := SREL_use kR_x kR_0 s_set1_2 gT_set1_2 fT_set1_2 kT_set1_2
theorem gT_set1_4 : cgood 65536 c_set1_4 = true := by decide +kernel
theorem fT_set1_4 : cfine zT 65536 c_set1_4 = true := by decide +kernel
theorem kT_set1_4 : ruse kR zH c_set1_4 zT c_set1_4 = true := by decide +kernel
theorem sT_set1_4 {X : pX} : SREL X pF pdfl mt_all kR zT c_set1_4 := SREL_use kR_x kR_0 s_set1_4 gT_set1_4 fT_set1_4 kT_set1_4
theorem gT_set2_1 : cgood 65536 c_set2_1 = true := by decide +kernel
theorem fT_set2_1 : cfine zT 65536 c_set2_1 = true := by decide +kernel
theorem kT_set2_1 : ruse kR zH c_set2_1 zT c_set2_1 = true := by decide +kernel
theorem sT_set2_1 {X : pX} : SREL X pF pdfl mt_all kR zT c_set2_1 := SREL_use kR_x kR_0 s_set2_1 gT_set2_1 fT_set2_1 kT_set2_1
theorem gT_set2_2 : cgood 65536 c_set2_2 = true := by decide +kernel
theorem fT_set2_2 : cfine zT 65536 c_set2_2 = true := by decide +kernel
theorem kT_set2_2 : ruse kR zH c_set2_2 zT c_set2_2 = true := by decide +kernel
theorem sT_set2_2 {X : pX} : SREL X pF pdfl mt_all kR zT c_set2_2 := SREL_use kR_x kR_0 s_set2_2 gT_set2_2 fT_set2_2 kT_set2_2
theorem gT_set2_4 : cgood 65536 c_set2_4 = true := by decide +kernel
theorem fT_set2_4 : cfine zT 65536 c_set2_4 = true := by decide +kernel
theorem kT_set2_4 : ruse kR zH c_set2_4 zT c_set2_4 = true := by decide +kernel
theorem sT_set2_4 {X : pX} : SREL X pF pdfl mt_all kR zT c_set2_4 := SREL_use kR_x kR_0 s_set2_4 gT_set2_4 fT_set2_4 kT_set2_4
theorem gT_set3_1 : cgood 65536 c_set3_1 = true := by decide +kernel
theorem fT_set3_1 : cfine zT 65536 c_set3_1 = true := by decide +kernel
theorem kT_set3_1 : ruse kR zH c_set3_1 zT c_set3_1 = true := by decide +kernel
theorem sT_set3_1 {X : pX} : SREL X pF pdfl mt_all kR zT c_set3_1 := SREL_use kR_x kR_0 s_set3_1 gT_set3_1 fT_set3_1 kT_set3_1
theorem gT_set3_2 : cgood 65536 c_set3_2 = true := by decide +kernel
theorem fT_set3_2 : cfine zT 65536 c_set3_2 = true := by decide +kernel
theorem kT_set3_2 : ruse kR zH c_set3_2 zT c_set3_2 = true := by decide +kernel
theorem sT_set3_2 {X : pX} : SREL X pF pdfl mt_all kR zT c_set3_2 := SREL_use kR_x kR_0 s_set3_2 gT_set3_2 fT_set3_2 kT_set3_2
theorem gT_set3_4 : cgood 65536 c_set3_4 = true := by decide +kernel
theorem fT_set3_4 : cfine zT 65536 c_set3_4 = true := by decide +kernel
theorem kT_set3_4 : ruse kR zH c_set3_4 zT c_set3_4 = true := by decide +kernel
theorem sT_set3_4 {X : pX} : SREL X pF pdfl mt_all kR zT c_set3_4 := SREL_use kR_x kR_0 s_set3_4 gT_set3_4 fT_set3_4 kT_set3_4
theorem gT_state4 : cgood 65536 c_state4 = true := by decide +kernel
theorem fT_state4 : cfine zT 65536 c_state4 = true := by decide +kernel
theorem kT_state4 : ruse kR zH c_state4 zT c_state4 = true := by decide +kernel
theorem sT_state4 {X : pX} : SREL X pF pdfl mt_all kR zT c_state4 := SREL_use kR_x kR_0 s_state4 gT_state4 fT_state4 kT_state4
theorem gT_frm0_0 : cgood 65536 c_frm0_0 = true := by decide +kernel
theorem fT_frm0_0 : cfine zT 65536 c_frm0_0 = true := by decide +kernel
theorem kT_frm0_0 : ruse kR zH c_frm0_0 zT c_frm0_0 = true := by decide +kernel
theorem sT_frm0_0 {X : pX} : SREL X pF pdfl mt_all kR zT c_frm0_0 := SREL_use kR_x kR_0 s_frm0_0 gT_frm0_0 fT_frm0_0 kT_frm0_0
theorem gT_frm0_1 : cgood 65536 c_frm0_1 = true := by decide +kernel
theorem fT_frm0_1 : cfine zT 65536 c_frm0_1 = true := by decide +kernel
theorem kT_frm0_1 : ruse kR zH c_frm0_1 zT c_frm0_1 = true := by decide +kernel
theorem sT_frm0_1 {X : pX} : SREL X pF pdfl mt_all kR zT c_frm0_1 := SREL_use kR_x kR_0 s_frm0_1 gT_frm0_1 fT_frm0_1 kT_frm0_1
theorem gT_frm0_2 : cgood 65536 c_frm0_2 = true := by decide +kernel
theorem fT_frm0_2 : cfine zT 65536 c_frm0_2 = true := by decide +kernel
theorem kT_frm0_2 : ruse kR zH c_frm0_2 zT c_frm0_2 = true := by decide +kernel
theorem sT_frm0_2 {X : pX} : SREL X pF pdfl mt_all kR zT c_frm0_2 := SREL_use kR_x kR_0 s_frm0_2 gT_frm0_2 fT_frm0_2 kT_frm0_2
theorem gT_frm0_3 : cgood 65536 c_frm0_3 = true := by decide +kernel
theorem fT_frm0_3 : cfine zT 65536 c_frm0_3 = true := by decide +kernel
theorem kT_frm0_3 : ruse kR zH c_frm0_3 zT c_frm0_3 = true := by decide +kernel
theorem sT_frm0_3 {X : pX} : SREL X pF pdfl mt_all kR zT c_frm0_3 := SREL_use kR_x kR_0 s_frm0_3 gT_frm0_3 fT_frm0_3 kT_frm0_3
theorem gT_frm0_4 : cgood 65536 c_frm0_4 = true := by decide +kernel
theorem fT_frm0_4 : cfine zT 65536 c_frm0_4 = true := by decide +kernel
theorem kT_frm0_4 : ruse kR zH c_frm0_4 zT c_frm0_4 = true := by decide +kernel
theorem sT_frm0_4 {X : pX} : SREL X pF pdfl mt_all kR zT c_frm0_4 := SREL_use kR_x kR_0 s_frm0_4 gT_frm0_4 fT_frm0_4 kT_frm0_4
theorem gT_frm0_5 : cgood 65536 c_frm0_5 = true := by decide +kernel
theorem fT_frm0_5 : cfine zT 65536 c_frm0_5 = true := by decide +kernel
theorem kT_frm0_5 : ruse kR zH c_frm0_5 zT c_frm0_5 = true := by decide +kernel
theorem sT_frm0_5 {X : pX} : SREL X pF pdfl mt_all kR zT c_frm0_5 := SREL_use kR_x kR_0 s_frm0_5 gT_frm0_5 fT_frm0_5 kT_frm0_5
theorem gT_frm0_6 : cgood 65536 c_frm0_6 = true := by decide +kernel
theorem fT_frm0_6 : cfine zT 65536 c_frm0_6 = true := by decide +kernel
theorem kT_frm0_6 : ruse kR zH c_frm0_6 zT c_frm0_6 = true := by decide +kernel
theorem sT_frm0_6 {X : pX} : SREL X pF pdfl mt_all kR zT c_frm0_6 := SREL_use kR_x kR_0 s_frm0_6 gT_frm0_6 fT_frm0_6 kT_frm0_6
theorem gT_frm0_7 : cgood 65536 c_frm0_7 = true := by decide +kernel
theorem fT_frm0_7 : cfine zT 65536 c_frm0_7 = true := by decide +kernel
theorem kT_frm0_7 : ruse kR zH c_frm0_7 zT c_frm0_7 = true := by decide +kernel
theorem sT_frm0_7 {X : pX} : SREL X pF pdfl mt_all kR zT c_frm0_7 := SREL_use kR_x kR_0 s_frm0_7 gT_frm0_7 fT_frm0_7 kT_frm0_7
theorem gT_frm0_8 : cgood 65536 c_frm0_8 = true := by decide +kernel
theorem fT_frm0_8 : cfine zT 65536 c_frm0_8 = true := by decide +kernel
theorem kT_frm0_8 : ruse kR zH c_frm0_8 zT c_frm0_8 = true := by decide +kernel
theorem sT_frm0_8 {X : pX} : SREL X pF pdfl mt_all kR zT c_frm0_8 := SREL_use kR_x kR_0 s_frm0_8 gT_frm0_8 fT_frm0_8 kT_frm0_8
theorem gT_frm1_0 : cgood 65536 c_frm1_0 = true := by decide +kernel
theorem fT_frm1_0 : cfine zT 65536 c_frm1_0 = true := by decide +kernel
theorem kT_frm1_0 : ruse kR zH c_frm1_0 zT c_frm1_0 = true := by decide +kernel
theorem sT_frm1_0 {X : pX} : SREL X pF pdfl mt_all kR zT c_frm1_0 := SREL_use kR_x kR_0 s_frm1_0 gT_frm1_0 fT_frm1_0 kT_frm1_0
theorem gT_frm1_1 : cgood 65536 c_frm1_1 = true := by decide +kernel
theorem fT_frm1_1 : cfine zT 65536 c_frm1_1 = true := by decide +kernel
theorem kT_frm1_1 : ruse kR zH c_frm1_1 zT c_frm1_1 = true := by decide +kernel
theorem sT_frm1_1 {X : pX} : SREL X pF pdfl mt_all kR zT c_frm1_1 := SREL_use kR_x kR_0 s_frm1_1 gT_frm1_1 fT_frm1_1 kT_frm1_1
theorem gT_frm1_2 : cgood 65536 c_frm1_2 = true := by decide +kernel
theorem fT_frm1_2 : cfine zT 65536 c_frm1_2 = true := by decide +kernel
theorem kT_frm1_2 : ruse kR zH c_frm1_2 zT c_frm1_2 = true := by decide +kernel
theorem sT_frm1_2 {X : pX} : SREL X pF pdfl mt_all kR zT c_frm1_2 := SREL_use kR_x kR_0 s_frm1_2 gT_frm1_2 fT_frm1_2 kT_frm1_2
theorem gT_frm1_3 : cgood 65536 c_frm1_3 = true := by decide +kernel
theorem fT_frm1_3 : cfine zT 65536 c_frm1_3 = true := by decide +kernel
theorem kT_frm1_3 : ruse kR zH c_frm1_3 zT c_frm1_3 = true := by decide +kernel
theorem sT_frm1_3 {X : pX} : SREL X pF pdfl mt_all kR zT c_frm1_3 := SREL_use kR_x kR_0 s_frm1_3 gT_frm1_3 fT_frm1_3 kT_frm1_3
theorem gT_frm1_4 : cgood 65536 c_frm1_4 = true := by decide +kernel
theorem fT_frm1_4 : cfine zT 65536 c_frm1_4 = true := by decide +kernel
theorem kT_frm1_4 : ruse kR zH c_frm1_4 zT c_frm1_4 = true := by decide +kernel
theorem sT_frm1_4 {X : pX} : SREL X pF pdfl mt_all kR zT c_frm1_4 := SREL_use kR_x kR_0 s_frm1_4 gT_frm1_4 fT_frm1_4 kT_frm1_4
theorem gT_frm1_5 : cgood 65536 c_frm1_5 = true := by decide +kernel
theorem fT_frm1_5 : cfine zT 65536 c_frm1_5 = true := by decide +kernel
theorem kT_frm1_5 : ruse kR zH c_frm1_5 zT c_frm1_5 = true := by decide +kernel
theorem sT_frm1_5 {X : pX} : SREL X pF pdfl mt_all kR zT c_frm1_5 := SREL_use kR_x kR_0 s_frm1_5 gT_frm1_5 fT_frm1_5 kT_frm1_5
theorem gT_frm1_6 : cgood 65536 c_frm1_6 = true := by decide +kernel
theorem fT_frm1_6 : cfine zT 65536 c_frm1_6 = true := by decide +kernel
theorem kT_frm1_6 : ruse kR zH c_frm1_6 zT c_frm1_6 = true := by decide +kernel
theorem sT_frm1_6 {X : pX} : SREL X pF pdfl mt_all kR zT c_frm1_6 := SREL_use kR_x kR_0 s_frm1_6 gT_frm1_6 fT_frm1_6 kT_frm1_6
theorem gT_frm1_7 : cgood 65536 c_frm1_7 = true := by decide +kernel
theorem fT_frm1_7 : cfine zT 65536 c_frm1_7 = true := by decide +kernel
theorem kT_frm1_7 : ruse kR zH c_frm1_7 zT c_frm1_7 = true := by decide +kernel
theorem sT_frm1_7 {X : pX} : SREL X pF pdfl mt_all kR zT c_frm1_7 := SREL_use kR_x kR_0 s_frm1_7 gT_frm1_7 fT_frm1_7 kT_frm1_7
theorem gT_frm1_8 : cgood 65536 c_frm1_8 = true := by decide +kernel
theorem fT_frm1_8 : cfine zT 65536 c_frm1_8 = true := by decide +kernel
theorem kT_frm1_8 : ruse kR zH c_frm1_8 zT c_frm1_8 = true := by decide +kernel
theorem sT_frm1_8 {X : pX} : SREL X pF pdfl mt_all kR zT c_frm1_8 := SREL_use kR_x kR_0 s_frm1_8 gT_frm1_8 fT_frm1_8 kT_frm1_8
