theorem gi_L {T L : List Cond} {own C : String} {idx : Nat} {y : MethodName} {cd : Cond} (hL : GoodIn T L) (hi : Cond.instanceMethod y ∈ L) (hs : Cond.selects C y y ∈ L) (hn : Cond.initialized C ∈ L) (h5 : cd ∈ L) (hm : GoodIn T [Cond.methodLink own idx y]) : GoodIn T (wsV own idx C y (cd :: L)) := by
  intro w hw
  unfold wsV at hw
  rcases List.mem_append.mp hw with h | h
  · rcases List.mem_cons.mp h with rfl | h
    · exact hm _ List.mem_cons_self
    · rcases List.mem_cons.mp h with rfl | h
      · exact hL _ hi
      · rcases List.mem_cons.mp h with rfl | h
        · exact hL _ hs
        · rcases List.mem_cons.mp h with rfl | h
          · exact hL _ hn
          · cases h
  · rcases List.mem_cons.mp h with rfl | h
    · exact hL _ h5
    · exact hL _ h
set_option maxRecDepth 100000 in
theorem glX_ : GoodIn lw_tbl wsX_ := goodIn_r _ [45, 46, 47, 50, 52, 53, 54, 55, 56, 57, 58, 59, 60, 61, 62, 63, 64, 65, 66, 67, 68, 69, 70, 109, 110, 111, 112, 114, 115, 116, 118, 119, 120, 122, 123, 124, 126, 127, 128, 129, 130, 132, 133, 134, 135, 137, 138, 140, 141, 142, 143, 144, 146, 147, 149, 150, 151, 152, 154, 155, 156, 158, 159, 161, 162, 163, 164, 166, 167, 168, 170, 171, 172, 174, 175, 177, 178, 179, 180, 182, 183, 184, 186, 187, 188, 190, 191, 193, 194, 195, 197, 198, 199, 200, 202, 203, 205, 206, 207, 209, 210, 211, 213, 214, 215, 217, 218, 219, 225, 226, 227, 294, 296, 297, 298, 300, 301, 302, 304, 305, 0, 1, 2, 3, 4, 5, 6, 7, 8, 9, 10, 11, 12, 13, 14, 15, 17, 18, 19, 36, 106, 107, 48, 49, 71, 73, 75, 77, 79, 81, 83, 85, 87, 89, 91, 93, 95, 97, 99, 101, 103] (by decide +kernel) (by decide +kernel)
set_option maxRecDepth 100000 in
theorem glM_ : GoodIn lw_tbl wsM_ := goodIn_r _ [310, 311, 312, 313, 314, 315, 316, 317, 318, 319, 320, 321, 322, 323, 324, 325, 326, 327, 328, 329, 366, 367, 368, 370, 371, 372, 373, 375, 376, 377, 379, 380, 382, 383, 384, 385, 387, 388, 390, 391, 392, 393, 395, 396, 397, 399, 400, 401, 402, 404, 405, 406, 408, 409, 410, 412, 413, 415, 416, 417, 418, 420, 421, 422, 424, 425, 427, 428, 429, 430, 432, 433, 434, 436, 437, 439, 440, 441, 443, 444, 445, 446, 448, 449, 451, 452, 453, 455, 456, 457, 459, 460, 461, 462, 464, 465, 466, 468, 469, 470, 472, 473, 475, 476, 477, 479, 480, 481, 20, 21, 22, 23, 24, 25, 26, 27, 28, 29, 30, 31, 32, 33, 34, 37, 106, 107, 48, 49, 330, 332, 334, 336, 338, 340, 342, 344, 346, 348, 350, 352, 354, 356, 358, 360, 362] (by decide +kernel) (by decide +kernel)
set_option maxRecDepth 100000 in
theorem gL_X_begin : GoodIn lw_tbl (wsV RL 19 RX0 yX0_begin wsX0_begin) := gi_L glX_ mX_im_begin mX_se_begin mX_in_ mX_co_begin (goodIn_r _ [108] (by decide +kernel) (by decide +kernel))
set_option maxRecDepth 100000 in
theorem gL_X_end : GoodIn lw_tbl (wsV RL 24 RX0 yX0_end wsX0_end) := gi_L glX_ mX_im_end mX_se_end mX_in_ mX_co_end (goodIn_r _ [131] (by decide +kernel) (by decide +kernel))
set_option maxRecDepth 100000 in
theorem gL_X_weigh : GoodIn lw_tbl (wsV RL 29 RX0 yX0_weigh wsX0_weigh) := gi_L glX_ mX_im_weigh mX_se_weigh mX_in_ mX_co_weigh (goodIn_r _ [139] (by decide +kernel) (by decide +kernel))
set_option maxRecDepth 100000 in
theorem gL_X_stale : GoodIn lw_tbl (wsV RL 34 RX0 yX0_stale wsX0_stale) := gi_L glX_ mX_im_stale mX_se_stale mX_in_ mX_co_stale (goodIn_r _ [148] (by decide +kernel) (by decide +kernel))
set_option maxRecDepth 100000 in
theorem gL_X_resume : GoodIn lw_tbl (wsV RL 38 RX0 yX0_resume wsX0_resume) := gi_L glX_ mX_im_resume mX_se_resume mX_in_ mX_co_resume (goodIn_r _ [160] (by decide +kernel) (by decide +kernel))
set_option maxRecDepth 100000 in
theorem gL_X_take : GoodIn lw_tbl (wsV RL 42 RX0 yX0_take wsX0_take) := gi_L glX_ mX_im_take mX_se_take mX_in_ mX_co_take (goodIn_r _ [176] (by decide +kernel) (by decide +kernel))
set_option maxRecDepth 100000 in
theorem gL_X_done : GoodIn lw_tbl (wsV RL 46 RX0 yX0_done wsX0_done) := gi_L glX_ mX_im_done mX_se_done mX_in_ mX_co_done (goodIn_r _ [192] (by decide +kernel) (by decide +kernel))
set_option maxRecDepth 100000 in
theorem gL_X_toEnd : GoodIn lw_tbl (wsV RL 50 RX0 yX0_toEnd wsX0_toEnd) := gi_L glX_ mX_im_toEnd mX_se_toEnd mX_in_ mX_co_toEnd (goodIn_r _ [196] (by decide +kernel) (by decide +kernel))
set_option maxRecDepth 100000 in
theorem gL_X_toBegin : GoodIn lw_tbl (wsV RL 55 RX0 yX0_toBegin wsX0_toBegin) := gi_L glX_ mX_im_toBegin mX_se_toBegin mX_in_ mX_co_toBegin (goodIn_r _ [204] (by decide +kernel) (by decide +kernel))
set_option maxRecDepth 100000 in
theorem gL_X_wipe : GoodIn lw_tbl (wsV RL 59 RX0 yX0_wipe wsX0_wipe) := gi_L glX_ mX_im_wipe mX_se_wipe mX_in_ mX_co_wipe (goodIn_r _ [208] (by decide +kernel) (by decide +kernel))
set_option maxRecDepth 100000 in
theorem gL_X_event : GoodIn lw_tbl (wsV RL 72 RX0 yX0_event wsX0_event) := gi_L glX_ mX_im_event mX_se_event mX_in_ mX_co_event (goodIn_r _ [212] (by decide +kernel) (by decide +kernel))
set_option maxRecDepth 100000 in
theorem gL_X_look : GoodIn lw_tbl (wsV RL 76 RX0 yX0_look wsX0_look) := gi_L glX_ mX_im_look mX_se_look mX_in_ mX_co_look (goodIn_r _ [216] (by decide +kernel) (by decide +kernel))
set_option maxRecDepth 100000 in
theorem gL_M_thrown : GoodIn lw_tbl (wsV RL 69 RX1 yX1_thrown wsX1_thrown) := gi_L glM_ mM_im_thrown mM_se_thrown mM_in_ mM_co_thrown (goodIn_r _ [365] (by decide +kernel) (by decide +kernel))
set_option maxRecDepth 100000 in
theorem gL_M_begin : GoodIn lw_tbl (wsV RL 23 RX1 yX1_begin wsX1_begin) := gi_L glM_ mM_im_begin mM_se_begin mM_in_ mM_co_begin (goodIn_r _ [369] (by decide +kernel) (by decide +kernel))
set_option maxRecDepth 100000 in
theorem gL_M_end : GoodIn lw_tbl (wsV RL 28 RX1 yX1_end wsX1_end) := gi_L glM_ mM_im_end mM_se_end mM_in_ mM_co_end (goodIn_r _ [381] (by decide +kernel) (by decide +kernel))
set_option maxRecDepth 100000 in
theorem gL_M_weigh : GoodIn lw_tbl (wsV RL 33 RX1 yX1_weigh wsX1_weigh) := gi_L glM_ mM_im_weigh mM_se_weigh mM_in_ mM_co_weigh (goodIn_r _ [389] (by decide +kernel) (by decide +kernel))
set_option maxRecDepth 100000 in
theorem gL_M_stale : GoodIn lw_tbl (wsV RL 37 RX1 yX1_stale wsX1_stale) := gi_L glM_ mM_im_stale mM_se_stale mM_in_ mM_co_stale (goodIn_r _ [398] (by decide +kernel) (by decide +kernel))
set_option maxRecDepth 100000 in
theorem gL_M_resume : GoodIn lw_tbl (wsV RL 41 RX1 yX1_resume wsX1_resume) := gi_L glM_ mM_im_resume mM_se_resume mM_in_ mM_co_resume (goodIn_r _ [414] (by decide +kernel) (by decide +kernel))
set_option maxRecDepth 100000 in
theorem gL_M_take : GoodIn lw_tbl (wsV RL 45 RX1 yX1_take wsX1_take) := gi_L glM_ mM_im_take mM_se_take mM_in_ mM_co_take (goodIn_r _ [426] (by decide +kernel) (by decide +kernel))
set_option maxRecDepth 100000 in
theorem gL_M_done : GoodIn lw_tbl (wsV RL 49 RX1 yX1_done wsX1_done) := gi_L glM_ mM_im_done mM_se_done mM_in_ mM_co_done (goodIn_r _ [438] (by decide +kernel) (by decide +kernel))
set_option maxRecDepth 100000 in
theorem gL_M_toEnd : GoodIn lw_tbl (wsV RL 54 RX1 yX1_toEnd wsX1_toEnd) := gi_L glM_ mM_im_toEnd mM_se_toEnd mM_in_ mM_co_toEnd (goodIn_r _ [442] (by decide +kernel) (by decide +kernel))
set_option maxRecDepth 100000 in
theorem gL_M_toBegin : GoodIn lw_tbl (wsV RL 58 RX1 yX1_toBegin wsX1_toBegin) := gi_L glM_ mM_im_toBegin mM_se_toBegin mM_in_ mM_co_toBegin (goodIn_r _ [450] (by decide +kernel) (by decide +kernel))
set_option maxRecDepth 100000 in
theorem gL_M_wipe : GoodIn lw_tbl (wsV RL 62 RX1 yX1_wipe wsX1_wipe) := gi_L glM_ mM_im_wipe mM_se_wipe mM_in_ mM_co_wipe (goodIn_r _ [454] (by decide +kernel) (by decide +kernel))
set_option maxRecDepth 100000 in
theorem gL_M_of : GoodIn lw_tbl (wsV RL 68 RX1 yX1_of wsX1_of) := gi_L glM_ mM_im_of mM_se_of mM_in_ mM_co_of (goodIn_r _ [458] (by decide +kernel) (by decide +kernel))
set_option maxRecDepth 100000 in
theorem gL_M_event : GoodIn lw_tbl (wsV RL 75 RX1 yX1_event wsX1_event) := gi_L glM_ mM_im_event mM_se_event mM_in_ mM_co_event (goodIn_r _ [474] (by decide +kernel) (by decide +kernel))
set_option maxRecDepth 100000 in
theorem gL_M_look : GoodIn lw_tbl (wsV RL 79 RX1 yX1_look wsX1_look) := gi_L glM_ mM_im_look mM_se_look mM_in_ mM_co_look (goodIn_r _ [478] (by decide +kernel) (by decide +kernel))
