theorem in_L : (.initialized RL : Cond) ∈ ALLW := in_all (List.mem_append_right _ (List.mem_of_getElem? (i := 0) (by decide +kernel))) rfl
theorem in_X11 : (.initialized RX11 : Cond) ∈ ALLW := in_all (List.mem_append_right _ (List.mem_of_getElem? (i := 1) (by decide +kernel))) rfl
theorem in_X6 : (.initialized RX6 : Cond) ∈ ALLW := in_all (List.mem_append_right _ (List.mem_of_getElem? (i := 2) (by decide +kernel))) rfl
theorem in_X5 : (.initialized RX5 : Cond) ∈ ALLW := in_all (List.mem_append_right _ (List.mem_of_getElem? (i := 3) (by decide +kernel))) rfl
theorem in_X1 : (.initialized RX1 : Cond) ∈ ALLW := in_all (List.mem_append_right _ (List.mem_of_getElem? (i := 4) (by decide +kernel))) rfl
theorem in_X0 : (.initialized RX0 : Cond) ∈ ALLW := in_all (List.mem_append_right _ (List.mem_of_getElem? (i := 5) (by decide +kernel))) rfl
theorem in_X4 : (.initialized RX4 : Cond) ∈ ALLW := in_all (List.mem_append_right _ (List.mem_of_getElem? (i := 6) (by decide +kernel))) rfl
theorem in_X3 : (.initialized RX3 : Cond) ∈ ALLW := in_all (List.mem_append_right _ (List.mem_of_getElem? (i := 7) (by decide +kernel))) rfl
theorem in_X8 : (.initialized RX8 : Cond) ∈ ALLW := in_all (List.mem_append_right _ (List.mem_of_getElem? (i := 8) (by decide +kernel))) rfl
theorem in_X10 : (.initialized RX10 : Cond) ∈ ALLW := in_all (List.mem_append_right _ (List.mem_of_getElem? (i := 9) (by decide +kernel))) rfl
theorem in_X2 : (.initialized RX2 : Cond) ∈ ALLW := in_all (List.mem_append_right _ (List.mem_of_getElem? (i := 10) (by decide +kernel))) rfl
theorem in_X9 : (.initialized RX9 : Cond) ∈ ALLW := in_all (List.mem_append_right _ (List.mem_of_getElem? (i := 11) (by decide +kernel))) rfl
theorem in_X7 : (.initialized RX7 : Cond) ∈ ALLW := in_all (List.mem_append_right _ (List.mem_of_getElem? (i := 12) (by decide +kernel))) rfl
theorem in_X12 : (.initialized RX12 : Cond) ∈ ALLW := in_all (List.mem_append_right _ (List.mem_of_getElem? (i := 13) (by decide +kernel))) rfl
theorem in_J0 : (.initialized RJ0 : Cond) ∈ ALLW := in_all (List.mem_append_right _ (List.mem_of_getElem? (i := 14) (by decide +kernel))) rfl
theorem in_J1 : (.initialized RJ1 : Cond) ∈ ALLW := in_all (List.mem_append_right _ (List.mem_of_getElem? (i := 15) (by decide +kernel))) rfl
theorem in_J3 : (.initialized RJ3 : Cond) ∈ ALLW := in_all (List.mem_append_right _ (List.mem_of_getElem? (i := 16) (by decide +kernel))) rfl
theorem in_J2 : (.initialized RJ2 : Cond) ∈ ALLW := in_all (List.mem_append_right _ (List.mem_of_getElem? (i := 17) (by decide +kernel))) rfl
theorem in_J10 : (.initialized RJ10 : Cond) ∈ ALLW := in_all (List.mem_append_right _ (List.mem_of_getElem? (i := 18) (by decide +kernel))) rfl
theorem in_J9 : (.initialized RJ9 : Cond) ∈ ALLW := in_all (List.mem_append_right _ (List.mem_of_getElem? (i := 19) (by decide +kernel))) rfl
theorem in_J6 : (.initialized RJ6 : Cond) ∈ ALLW := in_all (List.mem_append_right _ (List.mem_of_getElem? (i := 20) (by decide +kernel))) rfl
theorem cl_L_7 : (.classLink RL 7 RX11 : Cond) ∈ ALLW := in_all (List.mem_append_right _ (List.mem_of_getElem? (i := 21) (by decide +kernel))) rfl
theorem it_X11 : (.instantiable RX11 8 : Cond) ∈ ALLW := in_all (List.mem_append_right _ (List.mem_of_getElem? (i := 22) (by decide +kernel))) rfl
theorem ml_L_9 : (.methodLink RL 9 yX11_init : Cond) ∈ ALLW := in_all (List.mem_append_right _ (List.mem_of_getElem? (i := 23) (by decide +kernel))) rfl
theorem im_X11_init : (.instanceMethod yX11_init : Cond) ∈ ALLW := in_all (List.mem_append_right _ (List.mem_of_getElem? (i := 24) (by decide +kernel))) rfl
theorem cd_X11_init : (.code yX11_init cX11_init 2 none : Cond) ∈ ALLW := in_all (List.mem_append_right _ (List.mem_of_getElem? (i := 25) (by decide +kernel))) rfl
theorem ml_X11_1 : (.methodLink RX11 1 objectInit : Cond) ∈ ALLW := in_all (List.mem_append_right _ (List.mem_of_getElem? (i := 26) (by decide +kernel))) rfl
theorem im_obj : (.instanceMethod objectInit : Cond) ∈ ALLW := in_all (List.mem_append_right _ (List.mem_of_getElem? (i := 27) (by decide +kernel))) rfl
theorem cd_obj : (.code objectInit object_method_1_code 1 none : Cond) ∈ ALLW := in_all (List.mem_append_right _ (List.mem_of_getElem? (i := 28) (by decide +kernel))) rfl
theorem cl_X11_7 : (.classLink RX11 7 RX6 : Cond) ∈ ALLW := in_all (List.mem_append_right _ (List.mem_of_getElem? (i := 29) (by decide +kernel))) rfl
theorem it_X6 : (.instantiable RX6 0 : Cond) ∈ ALLW := in_all (List.mem_append_right _ (List.mem_of_getElem? (i := 31) (by decide +kernel))) rfl
theorem im_X6_init : (.instanceMethod yX6_init : Cond) ∈ ALLW := in_all (List.mem_append_right _ (List.mem_of_getElem? (i := 33) (by decide +kernel))) rfl
theorem cd_X6_init : (.code yX6_init cX6_init 1 none : Cond) ∈ ALLW := in_all (List.mem_append_right _ (List.mem_of_getElem? (i := 34) (by decide +kernel))) rfl
theorem ml_X6_1 : (.methodLink RX6 1 objectInit : Cond) ∈ ALLW := in_all (List.mem_append_right _ (List.mem_of_getElem? (i := 35) (by decide +kernel))) rfl
theorem sc_X6 : (.superclass RX6 "java/lang/Object" : Cond) ∈ ALLW := in_all (List.mem_append_right _ (List.mem_of_getElem? (i := 36) (by decide +kernel))) rfl
theorem cl_X11_10 : (.classLink RX11 10 RX5 : Cond) ∈ ALLW := in_all (List.mem_append_right _ (List.mem_of_getElem? (i := 37) (by decide +kernel))) rfl
theorem it_X5 : (.instantiable RX5 0 : Cond) ∈ ALLW := in_all (List.mem_append_right _ (List.mem_of_getElem? (i := 38) (by decide +kernel))) rfl
theorem im_X5_init : (.instanceMethod yX5_init : Cond) ∈ ALLW := in_all (List.mem_append_right _ (List.mem_of_getElem? (i := 40) (by decide +kernel))) rfl
theorem cd_X5_init : (.code yX5_init cX5_init 1 none : Cond) ∈ ALLW := in_all (List.mem_append_right _ (List.mem_of_getElem? (i := 41) (by decide +kernel))) rfl
theorem sc_X5 : (.superclass RX5 RX6 : Cond) ∈ ALLW := in_all (List.mem_append_right _ (List.mem_of_getElem? (i := 43) (by decide +kernel))) rfl
theorem cl_X11_13 : (.classLink RX11 13 RX1 : Cond) ∈ ALLW := in_all (List.mem_append_right _ (List.mem_of_getElem? (i := 44) (by decide +kernel))) rfl
theorem it_X1 : (.instantiable RX1 0 : Cond) ∈ ALLW := in_all (List.mem_append_right _ (List.mem_of_getElem? (i := 45) (by decide +kernel))) rfl
theorem im_X1_init : (.instanceMethod yX1_init : Cond) ∈ ALLW := in_all (List.mem_append_right _ (List.mem_of_getElem? (i := 47) (by decide +kernel))) rfl
theorem cd_X1_init : (.code yX1_init cX1_init 1 none : Cond) ∈ ALLW := in_all (List.mem_append_right _ (List.mem_of_getElem? (i := 48) (by decide +kernel))) rfl
theorem sc_X1 : (.superclass RX1 RX6 : Cond) ∈ ALLW := in_all (List.mem_append_right _ (List.mem_of_getElem? (i := 50) (by decide +kernel))) rfl
theorem cl_X11_16 : (.classLink RX11 16 RX0 : Cond) ∈ ALLW := in_all (List.mem_append_right _ (List.mem_of_getElem? (i := 51) (by decide +kernel))) rfl
theorem it_X0 : (.instantiable RX0 0 : Cond) ∈ ALLW := in_all (List.mem_append_right _ (List.mem_of_getElem? (i := 52) (by decide +kernel))) rfl
theorem im_X0_init : (.instanceMethod yX0_init : Cond) ∈ ALLW := in_all (List.mem_append_right _ (List.mem_of_getElem? (i := 54) (by decide +kernel))) rfl
theorem cd_X0_init : (.code yX0_init cX0_init 1 none : Cond) ∈ ALLW := in_all (List.mem_append_right _ (List.mem_of_getElem? (i := 55) (by decide +kernel))) rfl
theorem sc_X0 : (.superclass RX0 RX6 : Cond) ∈ ALLW := in_all (List.mem_append_right _ (List.mem_of_getElem? (i := 57) (by decide +kernel))) rfl
theorem cl_X11_19 : (.classLink RX11 19 RX4 : Cond) ∈ ALLW := in_all (List.mem_append_right _ (List.mem_of_getElem? (i := 58) (by decide +kernel))) rfl
theorem it_X4 : (.instantiable RX4 0 : Cond) ∈ ALLW := in_all (List.mem_append_right _ (List.mem_of_getElem? (i := 59) (by decide +kernel))) rfl
theorem im_X4_init : (.instanceMethod yX4_init : Cond) ∈ ALLW := in_all (List.mem_append_right _ (List.mem_of_getElem? (i := 61) (by decide +kernel))) rfl
theorem cd_X4_init : (.code yX4_init cX4_init 1 none : Cond) ∈ ALLW := in_all (List.mem_append_right _ (List.mem_of_getElem? (i := 62) (by decide +kernel))) rfl
theorem sc_X4 : (.superclass RX4 RX5 : Cond) ∈ ALLW := in_all (List.mem_append_right _ (List.mem_of_getElem? (i := 64) (by decide +kernel))) rfl
theorem cl_X11_22 : (.classLink RX11 22 RX3 : Cond) ∈ ALLW := in_all (List.mem_append_right _ (List.mem_of_getElem? (i := 65) (by decide +kernel))) rfl
theorem it_X3 : (.instantiable RX3 0 : Cond) ∈ ALLW := in_all (List.mem_append_right _ (List.mem_of_getElem? (i := 66) (by decide +kernel))) rfl
theorem im_X3_init : (.instanceMethod yX3_init : Cond) ∈ ALLW := in_all (List.mem_append_right _ (List.mem_of_getElem? (i := 68) (by decide +kernel))) rfl
theorem cd_X3_init : (.code yX3_init cX3_init 1 none : Cond) ∈ ALLW := in_all (List.mem_append_right _ (List.mem_of_getElem? (i := 69) (by decide +kernel))) rfl
theorem sc_X3 : (.superclass RX3 RX0 : Cond) ∈ ALLW := in_all (List.mem_append_right _ (List.mem_of_getElem? (i := 71) (by decide +kernel))) rfl
theorem cl_X11_25 : (.classLink RX11 25 RX8 : Cond) ∈ ALLW := in_all (List.mem_append_right _ (List.mem_of_getElem? (i := 72) (by decide +kernel))) rfl
theorem it_X8 : (.instantiable RX8 4 : Cond) ∈ ALLW := in_all (List.mem_append_right _ (List.mem_of_getElem? (i := 73) (by decide +kernel))) rfl
theorem ml_X11_27 : (.methodLink RX11 27 yX8_init : Cond) ∈ ALLW := in_all (List.mem_append_right _ (List.mem_of_getElem? (i := 74) (by decide +kernel))) rfl
theorem im_X8_init : (.instanceMethod yX8_init : Cond) ∈ ALLW := in_all (List.mem_append_right _ (List.mem_of_getElem? (i := 75) (by decide +kernel))) rfl
theorem cd_X8_init : (.code yX8_init cX8_init 3 none : Cond) ∈ ALLW := in_all (List.mem_append_right _ (List.mem_of_getElem? (i := 76) (by decide +kernel))) rfl
theorem ml_X8_3 : (.methodLink RX8 3 objectInit : Cond) ∈ ALLW := in_all (List.mem_append_right _ (List.mem_of_getElem? (i := 77) (by decide +kernel))) rfl
theorem cl_X8_9 : (.classLink RX8 9 RX10 : Cond) ∈ ALLW := in_all (List.mem_append_right _ (List.mem_of_getElem? (i := 78) (by decide +kernel))) rfl
theorem it_X10 : (.instantiable RX10 5 : Cond) ∈ ALLW := in_all (List.mem_append_right _ (List.mem_of_getElem? (i := 79) (by decide +kernel))) rfl
theorem im_X10_init : (.instanceMethod yX10_init : Cond) ∈ ALLW := in_all (List.mem_append_right _ (List.mem_of_getElem? (i := 81) (by decide +kernel))) rfl
theorem cd_X10_init : (.code yX10_init cX10_init 1 none : Cond) ∈ ALLW := in_all (List.mem_append_right _ (List.mem_of_getElem? (i := 82) (by decide +kernel))) rfl
theorem ml_X10_3 : (.methodLink RX10 3 objectInit : Cond) ∈ ALLW := in_all (List.mem_append_right _ (List.mem_of_getElem? (i := 83) (by decide +kernel))) rfl
theorem fl_X10_18 : (.fieldLink RX10 18 "TideTreaty$Years" "year" "I" : Cond) ∈ ALLW := in_all (List.mem_append_right _ (List.mem_of_getElem? (i := 84) (by decide +kernel))) rfl
theorem fl_X11_110 : (.fieldLink RX11 110 "TideTreaty$Years" "year" "I" : Cond) ∈ ALLW := in_all (List.mem_append_right _ (List.mem_of_getElem? (i := 85) (by decide +kernel))) rfl
theorem fl_X2_110 : (.fieldLink RX2 110 "TideTreaty$Years" "year" "I" : Cond) ∈ ALLW := in_all (List.mem_append_right _ (List.mem_of_getElem? (i := 86) (by decide +kernel))) rfl
theorem fl_X10_22 : (.fieldLink RX10 22 "TideTreaty$Years" "bells" "I" : Cond) ∈ ALLW := in_all (List.mem_append_right _ (List.mem_of_getElem? (i := 87) (by decide +kernel))) rfl
theorem fl_X11_86 : (.fieldLink RX11 86 "TideTreaty$Years" "bells" "I" : Cond) ∈ ALLW := in_all (List.mem_append_right _ (List.mem_of_getElem? (i := 88) (by decide +kernel))) rfl
theorem fl_X2_133 : (.fieldLink RX2 133 "TideTreaty$Years" "bells" "I" : Cond) ∈ ALLW := in_all (List.mem_append_right _ (List.mem_of_getElem? (i := 89) (by decide +kernel))) rfl
theorem fl_X10_25 : (.fieldLink RX10 25 "TideTreaty$Years" "breached" "I" : Cond) ∈ ALLW := in_all (List.mem_append_right _ (List.mem_of_getElem? (i := 90) (by decide +kernel))) rfl
theorem fl_X8_92 : (.fieldLink RX8 92 "TideTreaty$Years" "breached" "I" : Cond) ∈ ALLW := in_all (List.mem_append_right _ (List.mem_of_getElem? (i := 91) (by decide +kernel))) rfl
theorem fl_X2_136 : (.fieldLink RX2 136 "TideTreaty$Years" "breached" "I" : Cond) ∈ ALLW := in_all (List.mem_append_right _ (List.mem_of_getElem? (i := 92) (by decide +kernel))) rfl
theorem fl_X11_345 : (.fieldLink RX11 345 "TideTreaty$Years" "breached" "I" : Cond) ∈ ALLW := in_all (List.mem_append_right _ (List.mem_of_getElem? (i := 93) (by decide +kernel))) rfl
theorem fl_X10_9 : (.fieldLink RX10 9 "TideTreaty$Years" "dikes" "[I" : Cond) ∈ ALLW := in_all (List.mem_append_right _ (List.mem_of_getElem? (i := 94) (by decide +kernel))) rfl
theorem fl_X8_76 : (.fieldLink RX8 76 "TideTreaty$Years" "dikes" "[I" : Cond) ∈ ALLW := in_all (List.mem_append_right _ (List.mem_of_getElem? (i := 95) (by decide +kernel))) rfl
theorem fl_X2_147 : (.fieldLink RX2 147 "TideTreaty$Years" "dikes" "[I" : Cond) ∈ ALLW := in_all (List.mem_append_right _ (List.mem_of_getElem? (i := 96) (by decide +kernel))) rfl
theorem fl_X11_171 : (.fieldLink RX11 171 "TideTreaty$Years" "dikes" "[I" : Cond) ∈ ALLW := in_all (List.mem_append_right _ (List.mem_of_getElem? (i := 97) (by decide +kernel))) rfl
theorem fl_X10_15 : (.fieldLink RX10 15 "TideTreaty$Years" "floods" "[I" : Cond) ∈ ALLW := in_all (List.mem_append_right _ (List.mem_of_getElem? (i := 98) (by decide +kernel))) rfl
theorem fl_X8_73 : (.fieldLink RX8 73 "TideTreaty$Years" "floods" "[I" : Cond) ∈ ALLW := in_all (List.mem_append_right _ (List.mem_of_getElem? (i := 99) (by decide +kernel))) rfl
theorem fl_X11_174 : (.fieldLink RX11 174 "TideTreaty$Years" "floods" "[I" : Cond) ∈ ALLW := in_all (List.mem_append_right _ (List.mem_of_getElem? (i := 100) (by decide +kernel))) rfl
theorem sc_X10 : (.superclass RX10 "java/lang/Object" : Cond) ∈ ALLW := in_all (List.mem_append_right _ (List.mem_of_getElem? (i := 111) (by decide +kernel))) rfl
theorem ac_int : (.arrayClass .int : Cond) ∈ ALLW := in_all (List.mem_append_right _ (List.mem_of_getElem? (i := 112) (by decide +kernel))) rfl
theorem cl_X8_22 : (.classLink RX8 22 RX2 : Cond) ∈ ALLW := in_all (List.mem_append_right _ (List.mem_of_getElem? (i := 114) (by decide +kernel))) rfl
theorem it_X2 : (.instantiable RX2 13 : Cond) ∈ ALLW := in_all (List.mem_append_right _ (List.mem_of_getElem? (i := 115) (by decide +kernel))) rfl
theorem ml_X8_24 : (.methodLink RX8 24 yX2_init : Cond) ∈ ALLW := in_all (List.mem_append_right _ (List.mem_of_getElem? (i := 116) (by decide +kernel))) rfl
theorem im_X2_init : (.instanceMethod yX2_init : Cond) ∈ ALLW := in_all (List.mem_append_right _ (List.mem_of_getElem? (i := 117) (by decide +kernel))) rfl
theorem cd_X2_init : (.code yX2_init cX2_init 3 none : Cond) ∈ ALLW := in_all (List.mem_append_right _ (List.mem_of_getElem? (i := 118) (by decide +kernel))) rfl
theorem ml_X2_3 : (.methodLink RX2 3 objectInit : Cond) ∈ ALLW := in_all (List.mem_append_right _ (List.mem_of_getElem? (i := 119) (by decide +kernel))) rfl
theorem cl_X2_24 : (.classLink RX2 24 RX9 : Cond) ∈ ALLW := in_all (List.mem_append_right _ (List.mem_of_getElem? (i := 120) (by decide +kernel))) rfl
theorem it_X9 : (.instantiable RX9 8 : Cond) ∈ ALLW := in_all (List.mem_append_right _ (List.mem_of_getElem? (i := 122) (by decide +kernel))) rfl
theorem ml_X2_43 : (.methodLink RX2 43 yX9_init : Cond) ∈ ALLW := in_all (List.mem_append_right _ (List.mem_of_getElem? (i := 123) (by decide +kernel))) rfl
theorem im_X9_init : (.instanceMethod yX9_init : Cond) ∈ ALLW := in_all (List.mem_append_right _ (List.mem_of_getElem? (i := 124) (by decide +kernel))) rfl
theorem cd_X9_init : (.code yX9_init cX9_init 2 none : Cond) ∈ ALLW := in_all (List.mem_append_right _ (List.mem_of_getElem? (i := 125) (by decide +kernel))) rfl
theorem ml_X9_1 : (.methodLink RX9 1 objectInit : Cond) ∈ ALLW := in_all (List.mem_append_right _ (List.mem_of_getElem? (i := 126) (by decide +kernel))) rfl
theorem fl_X9_7 : (.fieldLink RX9 7 "TideTreaty$Treaty" "terms" "LTideTreaty$Plain;" : Cond) ∈ ALLW := in_all (List.mem_append_right _ (List.mem_of_getElem? (i := 127) (by decide +kernel))) rfl
theorem fl_X2_73 : (.fieldLink RX2 73 "TideTreaty$Treaty" "terms" "LTideTreaty$Plain;" : Cond) ∈ ALLW := in_all (List.mem_append_right _ (List.mem_of_getElem? (i := 128) (by decide +kernel))) rfl
theorem fl_X11_186 : (.fieldLink RX11 186 "TideTreaty$Treaty" "terms" "LTideTreaty$Plain;" : Cond) ∈ ALLW := in_all (List.mem_append_right _ (List.mem_of_getElem? (i := 129) (by decide +kernel))) rfl
theorem fl_X9_13 : (.fieldLink RX9 13 "TideTreaty$Treaty" "kind" "I" : Cond) ∈ ALLW := in_all (List.mem_append_right _ (List.mem_of_getElem? (i := 130) (by decide +kernel))) rfl
theorem fl_X2_77 : (.fieldLink RX2 77 "TideTreaty$Treaty" "kind" "I" : Cond) ∈ ALLW := in_all (List.mem_append_right _ (List.mem_of_getElem? (i := 131) (by decide +kernel))) rfl
theorem fl_X8_115 : (.fieldLink RX8 115 "TideTreaty$Treaty" "kind" "I" : Cond) ∈ ALLW := in_all (List.mem_append_right _ (List.mem_of_getElem? (i := 132) (by decide +kernel))) rfl
theorem fl_X11_180 : (.fieldLink RX11 180 "TideTreaty$Treaty" "kind" "I" : Cond) ∈ ALLW := in_all (List.mem_append_right _ (List.mem_of_getElem? (i := 133) (by decide +kernel))) rfl
theorem fl_X9_17 : (.fieldLink RX9 17 "TideTreaty$Treaty" "from" "I" : Cond) ∈ ALLW := in_all (List.mem_append_right _ (List.mem_of_getElem? (i := 134) (by decide +kernel))) rfl
theorem fl_X2_80 : (.fieldLink RX2 80 "TideTreaty$Treaty" "from" "I" : Cond) ∈ ALLW := in_all (List.mem_append_right _ (List.mem_of_getElem? (i := 135) (by decide +kernel))) rfl
theorem fl_X8_120 : (.fieldLink RX8 120 "TideTreaty$Treaty" "from" "I" : Cond) ∈ ALLW := in_all (List.mem_append_right _ (List.mem_of_getElem? (i := 136) (by decide +kernel))) rfl
theorem fl_X9_20 : (.fieldLink RX9 20 "TideTreaty$Treaty" "to" "I" : Cond) ∈ ALLW := in_all (List.mem_append_right _ (List.mem_of_getElem? (i := 137) (by decide +kernel))) rfl
theorem fl_X2_83 : (.fieldLink RX2 83 "TideTreaty$Treaty" "to" "I" : Cond) ∈ ALLW := in_all (List.mem_append_right _ (List.mem_of_getElem? (i := 138) (by decide +kernel))) rfl
theorem fl_X8_123 : (.fieldLink RX8 123 "TideTreaty$Treaty" "to" "I" : Cond) ∈ ALLW := in_all (List.mem_append_right _ (List.mem_of_getElem? (i := 139) (by decide +kernel))) rfl
theorem fl_X9_23 : (.fieldLink RX9 23 "TideTreaty$Treaty" "first" "I" : Cond) ∈ ALLW := in_all (List.mem_append_right _ (List.mem_of_getElem? (i := 140) (by decide +kernel))) rfl
theorem fl_X2_86 : (.fieldLink RX2 86 "TideTreaty$Treaty" "first" "I" : Cond) ∈ ALLW := in_all (List.mem_append_right _ (List.mem_of_getElem? (i := 141) (by decide +kernel))) rfl
theorem fl_X8_126 : (.fieldLink RX8 126 "TideTreaty$Treaty" "first" "I" : Cond) ∈ ALLW := in_all (List.mem_append_right _ (List.mem_of_getElem? (i := 142) (by decide +kernel))) rfl
theorem fl_X11_354 : (.fieldLink RX11 354 "TideTreaty$Treaty" "first" "I" : Cond) ∈ ALLW := in_all (List.mem_append_right _ (List.mem_of_getElem? (i := 143) (by decide +kernel))) rfl
theorem fl_X9_26 : (.fieldLink RX9 26 "TideTreaty$Treaty" "till" "I" : Cond) ∈ ALLW := in_all (List.mem_append_right _ (List.mem_of_getElem? (i := 144) (by decide +kernel))) rfl
theorem fl_X2_89 : (.fieldLink RX2 89 "TideTreaty$Treaty" "till" "I" : Cond) ∈ ALLW := in_all (List.mem_append_right _ (List.mem_of_getElem? (i := 145) (by decide +kernel))) rfl
theorem fl_X11_118 : (.fieldLink RX11 118 "TideTreaty$Treaty" "till" "I" : Cond) ∈ ALLW := in_all (List.mem_append_right _ (List.mem_of_getElem? (i := 146) (by decide +kernel))) rfl
theorem fl_X8_129 : (.fieldLink RX8 129 "TideTreaty$Treaty" "till" "I" : Cond) ∈ ALLW := in_all (List.mem_append_right _ (List.mem_of_getElem? (i := 147) (by decide +kernel))) rfl
theorem fl_X9_29 : (.fieldLink RX9 29 "TideTreaty$Treaty" "price" "I" : Cond) ∈ ALLW := in_all (List.mem_append_right _ (List.mem_of_getElem? (i := 148) (by decide +kernel))) rfl
theorem fl_X2_92 : (.fieldLink RX2 92 "TideTreaty$Treaty" "price" "I" : Cond) ∈ ALLW := in_all (List.mem_append_right _ (List.mem_of_getElem? (i := 149) (by decide +kernel))) rfl
theorem fl_X8_132 : (.fieldLink RX8 132 "TideTreaty$Treaty" "price" "I" : Cond) ∈ ALLW := in_all (List.mem_append_right _ (List.mem_of_getElem? (i := 150) (by decide +kernel))) rfl
theorem fl_X9_32 : (.fieldLink RX9 32 "TideTreaty$Treaty" "costs" "I" : Cond) ∈ ALLW := in_all (List.mem_append_right _ (List.mem_of_getElem? (i := 151) (by decide +kernel))) rfl
theorem fl_X2_101 : (.fieldLink RX2 101 "TideTreaty$Treaty" "costs" "I" : Cond) ∈ ALLW := in_all (List.mem_append_right _ (List.mem_of_getElem? (i := 152) (by decide +kernel))) rfl
theorem fl_X11_183 : (.fieldLink RX11 183 "TideTreaty$Treaty" "costs" "I" : Cond) ∈ ALLW := in_all (List.mem_append_right _ (List.mem_of_getElem? (i := 153) (by decide +kernel))) rfl
theorem sc_X9 : (.superclass RX9 "java/lang/Object" : Cond) ∈ ALLW := in_all (List.mem_append_right _ (List.mem_of_getElem? (i := 170) (by decide +kernel))) rfl
theorem fl_X2_39 : (.fieldLink RX2 39 "TideTreaty$Coast" "kinds" "[LTideTreaty$Plain;" : Cond) ∈ ALLW := in_all (List.mem_append_right _ (List.mem_of_getElem? (i := 171) (by decide +kernel))) rfl
theorem fl_X11_293 : (.fieldLink RX11 293 "TideTreaty$Coast" "kinds" "[LTideTreaty$Plain;" : Cond) ∈ ALLW := in_all (List.mem_append_right _ (List.mem_of_getElem? (i := 172) (by decide +kernel))) rfl
theorem fl_X2_46 : (.fieldLink RX2 46 "TideTreaty$Coast" "n" "I" : Cond) ∈ ALLW := in_all (List.mem_append_right _ (List.mem_of_getElem? (i := 173) (by decide +kernel))) rfl
theorem fl_X8_51 : (.fieldLink RX8 51 "TideTreaty$Coast" "n" "I" : Cond) ∈ ALLW := in_all (List.mem_append_right _ (List.mem_of_getElem? (i := 174) (by decide +kernel))) rfl
theorem fl_X11_230 : (.fieldLink RX11 230 "TideTreaty$Coast" "n" "I" : Cond) ∈ ALLW := in_all (List.mem_append_right _ (List.mem_of_getElem? (i := 175) (by decide +kernel))) rfl
theorem fl_X2_50 : (.fieldLink RX2 50 "TideTreaty$Coast" "moon" "I" : Cond) ∈ ALLW := in_all (List.mem_append_right _ (List.mem_of_getElem? (i := 176) (by decide +kernel))) rfl
theorem fl_X8_82 : (.fieldLink RX8 82 "TideTreaty$Coast" "moon" "I" : Cond) ∈ ALLW := in_all (List.mem_append_right _ (List.mem_of_getElem? (i := 177) (by decide +kernel))) rfl
theorem fl_X11_332 : (.fieldLink RX11 332 "TideTreaty$Coast" "moon" "I" : Cond) ∈ ALLW := in_all (List.mem_append_right _ (List.mem_of_getElem? (i := 178) (by decide +kernel))) rfl
theorem fl_X2_9 : (.fieldLink RX2 9 "TideTreaty$Coast" "heights" "[I" : Cond) ∈ ALLW := in_all (List.mem_append_right _ (List.mem_of_getElem? (i := 179) (by decide +kernel))) rfl
theorem fl_X8_65 : (.fieldLink RX8 65 "TideTreaty$Coast" "heights" "[I" : Cond) ∈ ALLW := in_all (List.mem_append_right _ (List.mem_of_getElem? (i := 180) (by decide +kernel))) rfl
theorem fl_X11_162 : (.fieldLink RX11 162 "TideTreaty$Coast" "heights" "[I" : Cond) ∈ ALLW := in_all (List.mem_append_right _ (List.mem_of_getElem? (i := 181) (by decide +kernel))) rfl
theorem fl_X2_15 : (.fieldLink RX2 15 "TideTreaty$Coast" "worths" "[I" : Cond) ∈ ALLW := in_all (List.mem_append_right _ (List.mem_of_getElem? (i := 182) (by decide +kernel))) rfl
theorem fl_X8_105 : (.fieldLink RX8 105 "TideTreaty$Coast" "worths" "[I" : Cond) ∈ ALLW := in_all (List.mem_append_right _ (List.mem_of_getElem? (i := 183) (by decide +kernel))) rfl
theorem fl_X11_165 : (.fieldLink RX11 165 "TideTreaty$Coast" "worths" "[I" : Cond) ∈ ALLW := in_all (List.mem_append_right _ (List.mem_of_getElem? (i := 184) (by decide +kernel))) rfl
theorem fl_X2_18 : (.fieldLink RX2 18 "TideTreaty$Coast" "towns" "[I" : Cond) ∈ ALLW := in_all (List.mem_append_right _ (List.mem_of_getElem? (i := 185) (by decide +kernel))) rfl
theorem fl_X8_108 : (.fieldLink RX8 108 "TideTreaty$Coast" "towns" "[I" : Cond) ∈ ALLW := in_all (List.mem_append_right _ (List.mem_of_getElem? (i := 186) (by decide +kernel))) rfl
theorem fl_X11_168 : (.fieldLink RX11 168 "TideTreaty$Coast" "towns" "[I" : Cond) ∈ ALLW := in_all (List.mem_append_right _ (List.mem_of_getElem? (i := 187) (by decide +kernel))) rfl
theorem fl_X2_21 : (.fieldLink RX2 21 "TideTreaty$Coast" "wants" "[I" : Cond) ∈ ALLW := in_all (List.mem_append_right _ (List.mem_of_getElem? (i := 188) (by decide +kernel))) rfl
theorem fl_X8_79 : (.fieldLink RX8 79 "TideTreaty$Coast" "wants" "[I" : Cond) ∈ ALLW := in_all (List.mem_append_right _ (List.mem_of_getElem? (i := 189) (by decide +kernel))) rfl
theorem fl_X2_26 : (.fieldLink RX2 26 "TideTreaty$Coast" "treaties" "[LTideTreaty$Treaty;" : Cond) ∈ ALLW := in_all (List.mem_append_right _ (List.mem_of_getElem? (i := 190) (by decide +kernel))) rfl
theorem fl_X11_104 : (.fieldLink RX11 104 "TideTreaty$Coast" "treaties" "[LTideTreaty$Treaty;" : Cond) ∈ ALLW := in_all (List.mem_append_right _ (List.mem_of_getElem? (i := 191) (by decide +kernel))) rfl
theorem fl_X8_111 : (.fieldLink RX8 111 "TideTreaty$Coast" "treaties" "[LTideTreaty$Treaty;" : Cond) ∈ ALLW := in_all (List.mem_append_right _ (List.mem_of_getElem? (i := 192) (by decide +kernel))) rfl
theorem fl_X2_53 : (.fieldLink RX2 53 "TideTreaty$Coast" "treatyCount" "I" : Cond) ∈ ALLW := in_all (List.mem_append_right _ (List.mem_of_getElem? (i := 193) (by decide +kernel))) rfl
theorem fl_X8_89 : (.fieldLink RX8 89 "TideTreaty$Coast" "treatyCount" "I" : Cond) ∈ ALLW := in_all (List.mem_append_right _ (List.mem_of_getElem? (i := 194) (by decide +kernel))) rfl
theorem fl_X11_216 : (.fieldLink RX11 216 "TideTreaty$Coast" "treatyCount" "I" : Cond) ∈ ALLW := in_all (List.mem_append_right _ (List.mem_of_getElem? (i := 195) (by decide +kernel))) rfl
theorem fl_X2_30 : (.fieldLink RX2 30 "TideTreaty$Coast" "tideWants" "[I" : Cond) ∈ ALLW := in_all (List.mem_append_right _ (List.mem_of_getElem? (i := 196) (by decide +kernel))) rfl
theorem fl_X2_33 : (.fieldLink RX2 33 "TideTreaty$Coast" "tideCells" "[I" : Cond) ∈ ALLW := in_all (List.mem_append_right _ (List.mem_of_getElem? (i := 197) (by decide +kernel))) rfl
theorem fl_X2_36 : (.fieldLink RX2 36 "TideTreaty$Coast" "tideWets" "[I" : Cond) ∈ ALLW := in_all (List.mem_append_right _ (List.mem_of_getElem? (i := 198) (by decide +kernel))) rfl
theorem fl_X2_56 : (.fieldLink RX2 56 "TideTreaty$Coast" "tideCount" "I" : Cond) ∈ ALLW := in_all (List.mem_append_right _ (List.mem_of_getElem? (i := 199) (by decide +kernel))) rfl
theorem fl_X11_335 : (.fieldLink RX11 335 "TideTreaty$Coast" "tideCount" "I" : Cond) ∈ ALLW := in_all (List.mem_append_right _ (List.mem_of_getElem? (i := 200) (by decide +kernel))) rfl
theorem sc_X2 : (.superclass RX2 "java/lang/Object" : Cond) ∈ ALLW := in_all (List.mem_append_right _ (List.mem_of_getElem? (i := 227) (by decide +kernel))) rfl
theorem ml_X8_31 : (.methodLink RX8 31 yX2_begin : Cond) ∈ ALLW := in_all (List.mem_append_right _ (List.mem_of_getElem? (i := 228) (by decide +kernel))) rfl
theorem im_X2_begin : (.instanceMethod yX2_begin : Cond) ∈ ALLW := in_all (List.mem_append_right _ (List.mem_of_getElem? (i := 229) (by decide +kernel))) rfl
theorem se_X2_X2_begin_X2_begin : (.selects RX2 yX2_begin yX2_begin : Cond) ∈ ALLW := in_all (List.mem_append_right _ (List.mem_of_getElem? (i := 230) (by decide +kernel))) rfl
theorem cd_X2_begin : (.code yX2_begin cX2_begin 3 none : Cond) ∈ ALLW := in_all (List.mem_append_right _ (List.mem_of_getElem? (i := 231) (by decide +kernel))) rfl
theorem ml_X2_59 : (.methodLink RX2 59 yX2_setCell : Cond) ∈ ALLW := in_all (List.mem_append_right _ (List.mem_of_getElem? (i := 232) (by decide +kernel))) rfl
theorem im_X2_setCell : (.instanceMethod yX2_setCell : Cond) ∈ ALLW := in_all (List.mem_append_right _ (List.mem_of_getElem? (i := 233) (by decide +kernel))) rfl
theorem se_X2_X2_setCell_X2_setCell : (.selects RX2 yX2_setCell yX2_setCell : Cond) ∈ ALLW := in_all (List.mem_append_right _ (List.mem_of_getElem? (i := 234) (by decide +kernel))) rfl
theorem cd_X2_setCell : (.code yX2_setCell cX2_setCell 5 none : Cond) ∈ ALLW := in_all (List.mem_append_right _ (List.mem_of_getElem? (i := 235) (by decide +kernel))) rfl
theorem ml_X8_35 : (.methodLink RX8 35 yX10_begin : Cond) ∈ ALLW := in_all (List.mem_append_right _ (List.mem_of_getElem? (i := 236) (by decide +kernel))) rfl
theorem im_X10_begin : (.instanceMethod yX10_begin : Cond) ∈ ALLW := in_all (List.mem_append_right _ (List.mem_of_getElem? (i := 237) (by decide +kernel))) rfl
theorem se_X10_X10_begin_X10_begin : (.selects RX10 yX10_begin yX10_begin : Cond) ∈ ALLW := in_all (List.mem_append_right _ (List.mem_of_getElem? (i := 238) (by decide +kernel))) rfl
theorem cd_X10_begin : (.code yX10_begin cX10_begin 2 none : Cond) ∈ ALLW := in_all (List.mem_append_right _ (List.mem_of_getElem? (i := 239) (by decide +kernel))) rfl
theorem fl_X8_27 : (.fieldLink RX8 27 "TideTreaty$State" "coast" "LTideTreaty$Coast;" : Cond) ∈ ALLW := in_all (List.mem_append_right _ (List.mem_of_getElem? (i := 240) (by decide +kernel))) rfl
theorem fl_X11_100 : (.fieldLink RX11 100 "TideTreaty$State" "coast" "LTideTreaty$Coast;" : Cond) ∈ ALLW := in_all (List.mem_append_right _ (List.mem_of_getElem? (i := 241) (by decide +kernel))) rfl
theorem fl_X8_12 : (.fieldLink RX8 12 "TideTreaty$State" "now" "LTideTreaty$Years;" : Cond) ∈ ALLW := in_all (List.mem_append_right _ (List.mem_of_getElem? (i := 242) (by decide +kernel))) rfl
theorem fl_X11_82 : (.fieldLink RX11 82 "TideTreaty$State" "now" "LTideTreaty$Years;" : Cond) ∈ ALLW := in_all (List.mem_append_right _ (List.mem_of_getElem? (i := 243) (by decide +kernel))) rfl
theorem fl_X8_18 : (.fieldLink RX8 18 "TideTreaty$State" "past" "[LTideTreaty$Years;" : Cond) ∈ ALLW := in_all (List.mem_append_right _ (List.mem_of_getElem? (i := 244) (by decide +kernel))) rfl
theorem fl_X8_44 : (.fieldLink RX8 44 "TideTreaty$State" "pastCount" "I" : Cond) ∈ ALLW := in_all (List.mem_append_right _ (List.mem_of_getElem? (i := 245) (by decide +kernel))) rfl
theorem fl_X11_329 : (.fieldLink RX11 329 "TideTreaty$State" "pastCount" "I" : Cond) ∈ ALLW := in_all (List.mem_append_right _ (List.mem_of_getElem? (i := 246) (by decide +kernel))) rfl
theorem sc_X8 : (.superclass RX8 "java/lang/Object" : Cond) ∈ ALLW := in_all (List.mem_append_right _ (List.mem_of_getElem? (i := 255) (by decide +kernel))) rfl
theorem cl_X11_43 : (.classLink RX11 43 RX7 : Cond) ∈ ALLW := in_all (List.mem_append_right _ (List.mem_of_getElem? (i := 257) (by decide +kernel))) rfl
theorem it_X7 : (.instantiable RX7 7 : Cond) ∈ ALLW := in_all (List.mem_append_right _ (List.mem_of_getElem? (i := 258) (by decide +kernel))) rfl
theorem im_X7_init : (.instanceMethod yX7_init : Cond) ∈ ALLW := in_all (List.mem_append_right _ (List.mem_of_getElem? (i := 260) (by decide +kernel))) rfl
theorem cd_X7_init : (.code yX7_init cX7_init 1 none : Cond) ∈ ALLW := in_all (List.mem_append_right _ (List.mem_of_getElem? (i := 261) (by decide +kernel))) rfl
theorem ml_X7_3 : (.methodLink RX7 3 objectInit : Cond) ∈ ALLW := in_all (List.mem_append_right _ (List.mem_of_getElem? (i := 262) (by decide +kernel))) rfl
theorem fl_X7_9 : (.fieldLink RX7 9 "TideTreaty$Script" "bytes" "[I" : Cond) ∈ ALLW := in_all (List.mem_append_right _ (List.mem_of_getElem? (i := 263) (by decide +kernel))) rfl
theorem fl_X11_124 : (.fieldLink RX11 124 "TideTreaty$Script" "bytes" "[I" : Cond) ∈ ALLW := in_all (List.mem_append_right _ (List.mem_of_getElem? (i := 264) (by decide +kernel))) rfl
theorem fl_X7_34 : (.fieldLink RX7 34 "TideTreaty$Script" "length" "I" : Cond) ∈ ALLW := in_all (List.mem_append_right _ (List.mem_of_getElem? (i := 265) (by decide +kernel))) rfl
theorem fl_X11_121 : (.fieldLink RX11 121 "TideTreaty$Script" "length" "I" : Cond) ∈ ALLW := in_all (List.mem_append_right _ (List.mem_of_getElem? (i := 266) (by decide +kernel))) rfl
theorem fl_X7_21 : (.fieldLink RX7 21 "TideTreaty$Script" "items" "I" : Cond) ∈ ALLW := in_all (List.mem_append_right _ (List.mem_of_getElem? (i := 267) (by decide +kernel))) rfl
theorem fl_X11_131 : (.fieldLink RX11 131 "TideTreaty$Script" "items" "I" : Cond) ∈ ALLW := in_all (List.mem_append_right _ (List.mem_of_getElem? (i := 268) (by decide +kernel))) rfl
theorem fl_X7_15 : (.fieldLink RX7 15 "TideTreaty$Script" "numbers" "[I" : Cond) ∈ ALLW := in_all (List.mem_append_right _ (List.mem_of_getElem? (i := 269) (by decide +kernel))) rfl
theorem fl_X7_18 : (.fieldLink RX7 18 "TideTreaty$Script" "words" "[I" : Cond) ∈ ALLW := in_all (List.mem_append_right _ (List.mem_of_getElem? (i := 270) (by decide +kernel))) rfl
theorem fl_X7_25 : (.fieldLink RX7 25 "TideTreaty$Script" "place" "I" : Cond) ∈ ALLW := in_all (List.mem_append_right _ (List.mem_of_getElem? (i := 271) (by decide +kernel))) rfl
theorem fl_X7_28 : (.fieldLink RX7 28 "TideTreaty$Script" "due" "I" : Cond) ∈ ALLW := in_all (List.mem_append_right _ (List.mem_of_getElem? (i := 272) (by decide +kernel))) rfl
theorem sc_X7 : (.superclass RX7 "java/lang/Object" : Cond) ∈ ALLW := in_all (List.mem_append_right _ (List.mem_of_getElem? (i := 287) (by decide +kernel))) rfl
theorem fl_X11_30 : (.fieldLink RX11 30 "TideTreaty" "state" "LTideTreaty$State;" : Cond) ∈ ALLW := in_all (List.mem_append_right _ (List.mem_of_getElem? (i := 288) (by decide +kernel))) rfl
theorem fl_X11_36 : (.fieldLink RX11 36 "TideTreaty" "trial" "LTideTreaty$State;" : Cond) ∈ ALLW := in_all (List.mem_append_right _ (List.mem_of_getElem? (i := 289) (by decide +kernel))) rfl
theorem fl_X11_39 : (.fieldLink RX11 39 "TideTreaty" "images" "[LTideTreaty$State;" : Cond) ∈ ALLW := in_all (List.mem_append_right _ (List.mem_of_getElem? (i := 290) (by decide +kernel))) rfl
theorem fl_X11_46 : (.fieldLink RX11 46 "TideTreaty" "script" "LTideTreaty$Script;" : Cond) ∈ ALLW := in_all (List.mem_append_right _ (List.mem_of_getElem? (i := 291) (by decide +kernel))) rfl
theorem fl_X11_50 : (.fieldLink RX11 50 "TideTreaty" "tillsAsCut" "[I" : Cond) ∈ ALLW := in_all (List.mem_append_right _ (List.mem_of_getElem? (i := 292) (by decide +kernel))) rfl
theorem fl_X11_300 : (.fieldLink RX11 300 "TideTreaty" "badCalls" "I" : Cond) ∈ ALLW := in_all (List.mem_append_right _ (List.mem_of_getElem? (i := 293) (by decide +kernel))) rfl
theorem fl_X11_303 : (.fieldLink RX11 303 "TideTreaty" "noCalls" "I" : Cond) ∈ ALLW := in_all (List.mem_append_right _ (List.mem_of_getElem? (i := 294) (by decide +kernel))) rfl
theorem fl_X11_306 : (.fieldLink RX11 306 "TideTreaty" "fullCalls" "I" : Cond) ∈ ALLW := in_all (List.mem_append_right _ (List.mem_of_getElem? (i := 295) (by decide +kernel))) rfl
theorem sc_X11 : (.superclass RX11 "java/lang/Object" : Cond) ∈ ALLW := in_all (List.mem_append_right _ (List.mem_of_getElem? (i := 312) (by decide +kernel))) rfl
theorem ml_L_13 : (.methodLink RL 13 yX11_coast : Cond) ∈ ALLW := in_all (List.mem_append_right _ (List.mem_of_getElem? (i := 313) (by decide +kernel))) rfl
theorem im_X11_coast : (.instanceMethod yX11_coast : Cond) ∈ ALLW := in_all (List.mem_append_right _ (List.mem_of_getElem? (i := 314) (by decide +kernel))) rfl
theorem se_X11_X11_coast_X11_coast : (.selects RX11 yX11_coast yX11_coast : Cond) ∈ ALLW := in_all (List.mem_append_right _ (List.mem_of_getElem? (i := 315) (by decide +kernel))) rfl
theorem cd_X11_coast : (.code yX11_coast cX11_coast 2 (some (.int)) : Cond) ∈ ALLW := in_all (List.mem_append_right _ (List.mem_of_getElem? (i := 316) (by decide +kernel))) rfl
theorem ml_X11_54 : (.methodLink RX11 54 yX8_tellCoast : Cond) ∈ ALLW := in_all (List.mem_append_right _ (List.mem_of_getElem? (i := 317) (by decide +kernel))) rfl
theorem im_X8_tellCoast : (.instanceMethod yX8_tellCoast : Cond) ∈ ALLW := in_all (List.mem_append_right _ (List.mem_of_getElem? (i := 318) (by decide +kernel))) rfl
theorem se_X8_X8_tellCoast_X8_tellCoast : (.selects RX8 yX8_tellCoast yX8_tellCoast : Cond) ∈ ALLW := in_all (List.mem_append_right _ (List.mem_of_getElem? (i := 319) (by decide +kernel))) rfl
theorem cd_X8_tellCoast : (.code yX8_tellCoast cX8_tellCoast 3 (some (.int)) : Cond) ∈ ALLW := in_all (List.mem_append_right _ (List.mem_of_getElem? (i := 320) (by decide +kernel))) rfl
theorem st_X11_within : (.static yX11_within : Cond) ∈ ALLW := in_all (List.mem_append_right _ (List.mem_of_getElem? (i := 322) (by decide +kernel))) rfl
theorem cd_X11_within : (.code yX11_within cX11_within 3 (some (.boolean)) : Cond) ∈ ALLW := in_all (List.mem_append_right _ (List.mem_of_getElem? (i := 323) (by decide +kernel))) rfl
theorem ml_X11_58 : (.methodLink RX11 58 yX11_told : Cond) ∈ ALLW := in_all (List.mem_append_right _ (List.mem_of_getElem? (i := 324) (by decide +kernel))) rfl
theorem im_X11_told : (.instanceMethod yX11_told : Cond) ∈ ALLW := in_all (List.mem_append_right _ (List.mem_of_getElem? (i := 326) (by decide +kernel))) rfl
theorem cd_X11_told : (.code yX11_told cX11_told 2 (some (.int)) : Cond) ∈ ALLW := in_all (List.mem_append_right _ (List.mem_of_getElem? (i := 327) (by decide +kernel))) rfl
theorem ml_X11_79 : (.methodLink RX11 79 yX11_refused : Cond) ∈ ALLW := in_all (List.mem_append_right _ (List.mem_of_getElem? (i := 328) (by decide +kernel))) rfl
theorem im_X11_refused : (.instanceMethod yX11_refused : Cond) ∈ ALLW := in_all (List.mem_append_right _ (List.mem_of_getElem? (i := 330) (by decide +kernel))) rfl
theorem cd_X11_refused : (.code yX11_refused cX11_refused 3 (some (.int)) : Cond) ∈ ALLW := in_all (List.mem_append_right _ (List.mem_of_getElem? (i := 331) (by decide +kernel))) rfl
theorem ml_L_18 : (.methodLink RL 18 yX11_cell : Cond) ∈ ALLW := in_all (List.mem_append_right _ (List.mem_of_getElem? (i := 332) (by decide +kernel))) rfl
theorem im_X11_cell : (.instanceMethod yX11_cell : Cond) ∈ ALLW := in_all (List.mem_append_right _ (List.mem_of_getElem? (i := 333) (by decide +kernel))) rfl
theorem se_X11_X11_cell_X11_cell : (.selects RX11 yX11_cell yX11_cell : Cond) ∈ ALLW := in_all (List.mem_append_right _ (List.mem_of_getElem? (i := 334) (by decide +kernel))) rfl
theorem cd_X11_cell : (.code yX11_cell cX11_cell 5 (some (.int)) : Cond) ∈ ALLW := in_all (List.mem_append_right _ (List.mem_of_getElem? (i := 335) (by decide +kernel))) rfl
theorem ml_X11_61 : (.methodLink RX11 61 yX8_tellCell : Cond) ∈ ALLW := in_all (List.mem_append_right _ (List.mem_of_getElem? (i := 336) (by decide +kernel))) rfl
theorem im_X8_tellCell : (.instanceMethod yX8_tellCell : Cond) ∈ ALLW := in_all (List.mem_append_right _ (List.mem_of_getElem? (i := 337) (by decide +kernel))) rfl
theorem se_X8_X8_tellCell_X8_tellCell : (.selects RX8 yX8_tellCell yX8_tellCell : Cond) ∈ ALLW := in_all (List.mem_append_right _ (List.mem_of_getElem? (i := 338) (by decide +kernel))) rfl
theorem cd_X8_tellCell : (.code yX8_tellCell cX8_tellCell 6 (some (.int)) : Cond) ∈ ALLW := in_all (List.mem_append_right _ (List.mem_of_getElem? (i := 339) (by decide +kernel))) rfl
theorem ml_X8_58 : (.methodLink RX8 58 yX8_isCellOfIt : Cond) ∈ ALLW := in_all (List.mem_append_right _ (List.mem_of_getElem? (i := 340) (by decide +kernel))) rfl
theorem im_X8_isCellOfIt : (.instanceMethod yX8_isCellOfIt : Cond) ∈ ALLW := in_all (List.mem_append_right _ (List.mem_of_getElem? (i := 342) (by decide +kernel))) rfl
theorem cd_X8_isCellOfIt : (.code yX8_isCellOfIt cX8_isCellOfIt 2 (some (.boolean)) : Cond) ∈ ALLW := in_all (List.mem_append_right _ (List.mem_of_getElem? (i := 343) (by decide +kernel))) rfl
theorem st_X11_isTown : (.static yX11_isTown : Cond) ∈ ALLW := in_all (List.mem_append_right _ (List.mem_of_getElem? (i := 345) (by decide +kernel))) rfl
theorem cd_X11_isTown : (.code yX11_isTown cX11_isTown 1 (some (.boolean)) : Cond) ∈ ALLW := in_all (List.mem_append_right _ (List.mem_of_getElem? (i := 346) (by decide +kernel))) rfl
theorem ml_X11_75 : (.methodLink RX11 75 yX11_within : Cond) ∈ ALLW := in_all (List.mem_append_right _ (List.mem_of_getElem? (i := 347) (by decide +kernel))) rfl
theorem ml_X8_69 : (.methodLink RX8 69 yX2_setCell : Cond) ∈ ALLW := in_all (List.mem_append_right _ (List.mem_of_getElem? (i := 348) (by decide +kernel))) rfl
theorem ml_L_23 : (.methodLink RL 23 yX11_dike : Cond) ∈ ALLW := in_all (List.mem_append_right _ (List.mem_of_getElem? (i := 349) (by decide +kernel))) rfl
theorem im_X11_dike : (.instanceMethod yX11_dike : Cond) ∈ ALLW := in_all (List.mem_append_right _ (List.mem_of_getElem? (i := 350) (by decide +kernel))) rfl
theorem se_X11_X11_dike_X11_dike : (.selects RX11 yX11_dike yX11_dike : Cond) ∈ ALLW := in_all (List.mem_append_right _ (List.mem_of_getElem? (i := 351) (by decide +kernel))) rfl
theorem cd_X11_dike : (.code yX11_dike cX11_dike 3 (some (.int)) : Cond) ∈ ALLW := in_all (List.mem_append_right _ (List.mem_of_getElem? (i := 352) (by decide +kernel))) rfl
theorem ml_X11_65 : (.methodLink RX11 65 yX8_tellDike : Cond) ∈ ALLW := in_all (List.mem_append_right _ (List.mem_of_getElem? (i := 353) (by decide +kernel))) rfl
theorem im_X8_tellDike : (.instanceMethod yX8_tellDike : Cond) ∈ ALLW := in_all (List.mem_append_right _ (List.mem_of_getElem? (i := 354) (by decide +kernel))) rfl
theorem se_X8_X8_tellDike_X8_tellDike : (.selects RX8 yX8_tellDike yX8_tellDike : Cond) ∈ ALLW := in_all (List.mem_append_right _ (List.mem_of_getElem? (i := 355) (by decide +kernel))) rfl
theorem cd_X8_tellDike : (.code yX8_tellDike cX8_tellDike 4 (some (.int)) : Cond) ∈ ALLW := in_all (List.mem_append_right _ (List.mem_of_getElem? (i := 356) (by decide +kernel))) rfl
theorem ml_L_28 : (.methodLink RL 28 yX11_want : Cond) ∈ ALLW := in_all (List.mem_append_right _ (List.mem_of_getElem? (i := 357) (by decide +kernel))) rfl
theorem im_X11_want : (.instanceMethod yX11_want : Cond) ∈ ALLW := in_all (List.mem_append_right _ (List.mem_of_getElem? (i := 358) (by decide +kernel))) rfl
theorem se_X11_X11_want_X11_want : (.selects RX11 yX11_want yX11_want : Cond) ∈ ALLW := in_all (List.mem_append_right _ (List.mem_of_getElem? (i := 359) (by decide +kernel))) rfl
theorem cd_X11_want : (.code yX11_want cX11_want 3 (some (.int)) : Cond) ∈ ALLW := in_all (List.mem_append_right _ (List.mem_of_getElem? (i := 360) (by decide +kernel))) rfl
theorem ml_X11_69 : (.methodLink RX11 69 yX8_tellWant : Cond) ∈ ALLW := in_all (List.mem_append_right _ (List.mem_of_getElem? (i := 361) (by decide +kernel))) rfl
theorem im_X8_tellWant : (.instanceMethod yX8_tellWant : Cond) ∈ ALLW := in_all (List.mem_append_right _ (List.mem_of_getElem? (i := 362) (by decide +kernel))) rfl
theorem se_X8_X8_tellWant_X8_tellWant : (.selects RX8 yX8_tellWant yX8_tellWant : Cond) ∈ ALLW := in_all (List.mem_append_right _ (List.mem_of_getElem? (i := 363) (by decide +kernel))) rfl
theorem cd_X8_tellWant : (.code yX8_tellWant cX8_tellWant 4 (some (.int)) : Cond) ∈ ALLW := in_all (List.mem_append_right _ (List.mem_of_getElem? (i := 364) (by decide +kernel))) rfl
theorem ml_L_32 : (.methodLink RL 32 yX11_moon : Cond) ∈ ALLW := in_all (List.mem_append_right _ (List.mem_of_getElem? (i := 365) (by decide +kernel))) rfl
theorem im_X11_moon : (.instanceMethod yX11_moon : Cond) ∈ ALLW := in_all (List.mem_append_right _ (List.mem_of_getElem? (i := 366) (by decide +kernel))) rfl
theorem se_X11_X11_moon_X11_moon : (.selects RX11 yX11_moon yX11_moon : Cond) ∈ ALLW := in_all (List.mem_append_right _ (List.mem_of_getElem? (i := 367) (by decide +kernel))) rfl
theorem cd_X11_moon : (.code yX11_moon cX11_moon 2 (some (.int)) : Cond) ∈ ALLW := in_all (List.mem_append_right _ (List.mem_of_getElem? (i := 368) (by decide +kernel))) rfl
theorem ml_X11_72 : (.methodLink RX11 72 yX8_tellMoon : Cond) ∈ ALLW := in_all (List.mem_append_right _ (List.mem_of_getElem? (i := 369) (by decide +kernel))) rfl
theorem im_X8_tellMoon : (.instanceMethod yX8_tellMoon : Cond) ∈ ALLW := in_all (List.mem_append_right _ (List.mem_of_getElem? (i := 370) (by decide +kernel))) rfl
theorem se_X8_X8_tellMoon_X8_tellMoon : (.selects RX8 yX8_tellMoon yX8_tellMoon : Cond) ∈ ALLW := in_all (List.mem_append_right _ (List.mem_of_getElem? (i := 371) (by decide +kernel))) rfl
theorem cd_X8_tellMoon : (.code yX8_tellMoon cX8_tellMoon 3 (some (.int)) : Cond) ∈ ALLW := in_all (List.mem_append_right _ (List.mem_of_getElem? (i := 372) (by decide +kernel))) rfl
theorem ml_L_36 : (.methodLink RL 36 yX11_bells : Cond) ∈ ALLW := in_all (List.mem_append_right _ (List.mem_of_getElem? (i := 373) (by decide +kernel))) rfl
theorem im_X11_bells : (.instanceMethod yX11_bells : Cond) ∈ ALLW := in_all (List.mem_append_right _ (List.mem_of_getElem? (i := 374) (by decide +kernel))) rfl
theorem se_X11_X11_bells_X11_bells : (.selects RX11 yX11_bells yX11_bells : Cond) ∈ ALLW := in_all (List.mem_append_right _ (List.mem_of_getElem? (i := 375) (by decide +kernel))) rfl
theorem cd_X11_bells : (.code yX11_bells cX11_bells 3 (some (.int)) : Cond) ∈ ALLW := in_all (List.mem_append_right _ (List.mem_of_getElem? (i := 376) (by decide +kernel))) rfl
theorem ml_L_40 : (.methodLink RL 40 yX11_treaty : Cond) ∈ ALLW := in_all (List.mem_append_right _ (List.mem_of_getElem? (i := 377) (by decide +kernel))) rfl
theorem im_X11_treaty : (.instanceMethod yX11_treaty : Cond) ∈ ALLW := in_all (List.mem_append_right _ (List.mem_of_getElem? (i := 378) (by decide +kernel))) rfl
theorem se_X11_X11_treaty_X11_treaty : (.selects RX11 yX11_treaty yX11_treaty : Cond) ∈ ALLW := in_all (List.mem_append_right _ (List.mem_of_getElem? (i := 379) (by decide +kernel))) rfl
theorem cd_X11_treaty : (.code yX11_treaty cX11_treaty 7 (some (.int)) : Cond) ∈ ALLW := in_all (List.mem_append_right _ (List.mem_of_getElem? (i := 380) (by decide +kernel))) rfl
theorem ml_X11_92 : (.methodLink RX11 92 yX8_tellTreaty : Cond) ∈ ALLW := in_all (List.mem_append_right _ (List.mem_of_getElem? (i := 381) (by decide +kernel))) rfl
theorem im_X8_tellTreaty : (.instanceMethod yX8_tellTreaty : Cond) ∈ ALLW := in_all (List.mem_append_right _ (List.mem_of_getElem? (i := 382) (by decide +kernel))) rfl
theorem se_X8_X8_tellTreaty_X8_tellTreaty : (.selects RX8 yX8_tellTreaty yX8_tellTreaty : Cond) ∈ ALLW := in_all (List.mem_append_right _ (List.mem_of_getElem? (i := 383) (by decide +kernel))) rfl
theorem cd_X8_tellTreaty : (.code yX8_tellTreaty cX8_tellTreaty 7 (some (.int)) : Cond) ∈ ALLW := in_all (List.mem_append_right _ (List.mem_of_getElem? (i := 384) (by decide +kernel))) rfl
theorem ml_X8_85 : (.methodLink RX8 85 yX2_addTreaty : Cond) ∈ ALLW := in_all (List.mem_append_right _ (List.mem_of_getElem? (i := 385) (by decide +kernel))) rfl
theorem im_X2_addTreaty : (.instanceMethod yX2_addTreaty : Cond) ∈ ALLW := in_all (List.mem_append_right _ (List.mem_of_getElem? (i := 386) (by decide +kernel))) rfl
theorem se_X2_X2_addTreaty_X2_addTreaty : (.selects RX2 yX2_addTreaty yX2_addTreaty : Cond) ∈ ALLW := in_all (List.mem_append_right _ (List.mem_of_getElem? (i := 387) (by decide +kernel))) rfl
theorem cd_X2_addTreaty : (.code yX2_addTreaty cX2_addTreaty 8 (some (.int)) : Cond) ∈ ALLW := in_all (List.mem_append_right _ (List.mem_of_getElem? (i := 388) (by decide +kernel))) rfl
theorem ml_X2_95 : (.methodLink RX2 95 yX6_costs : Cond) ∈ ALLW := in_all (List.mem_append_right _ (List.mem_of_getElem? (i := 389) (by decide +kernel))) rfl
theorem im_X6_costs : (.instanceMethod yX6_costs : Cond) ∈ ALLW := in_all (List.mem_append_right _ (List.mem_of_getElem? (i := 390) (by decide +kernel))) rfl
theorem se_X6_X6_costs_X6_costs : (.selects RX6 yX6_costs yX6_costs : Cond) ∈ ALLW := in_all (List.mem_append_right _ (List.mem_of_getElem? (i := 391) (by decide +kernel))) rfl
theorem sm_X6_X6_costs : (.sameMethod "TideTreaty$Plain" "TideTreaty$Plain" "costs" "(I)I" : Cond) ∈ ALLW := in_all (List.mem_append_right _ (List.mem_of_getElem? (i := 392) (by decide +kernel))) rfl
theorem se_X0_X6_costs_X0_costs : (.selects RX0 yX6_costs yX0_costs : Cond) ∈ ALLW := in_all (List.mem_append_right _ (List.mem_of_getElem? (i := 393) (by decide +kernel))) rfl
theorem im_X0_costs : (.instanceMethod yX0_costs : Cond) ∈ ALLW := in_all (List.mem_append_right _ (List.mem_of_getElem? (i := 394) (by decide +kernel))) rfl
theorem cd_X0_costs : (.code yX0_costs cX0_costs 2 (some (.int)) : Cond) ∈ ALLW := in_all (List.mem_append_right _ (List.mem_of_getElem? (i := 395) (by decide +kernel))) rfl
theorem ml_X0_7 : (.methodLink RX0 7 yX6_costs : Cond) ∈ ALLW := in_all (List.mem_append_right _ (List.mem_of_getElem? (i := 396) (by decide +kernel))) rfl
theorem se_X1_X6_costs_X6_costs : (.selects RX1 yX6_costs yX6_costs : Cond) ∈ ALLW := in_all (List.mem_append_right _ (List.mem_of_getElem? (i := 397) (by decide +kernel))) rfl
theorem se_X3_X6_costs_X3_costs : (.selects RX3 yX6_costs yX3_costs : Cond) ∈ ALLW := in_all (List.mem_append_right _ (List.mem_of_getElem? (i := 398) (by decide +kernel))) rfl
theorem im_X3_costs : (.instanceMethod yX3_costs : Cond) ∈ ALLW := in_all (List.mem_append_right _ (List.mem_of_getElem? (i := 399) (by decide +kernel))) rfl
theorem cd_X3_costs : (.code yX3_costs cX3_costs 2 (some (.int)) : Cond) ∈ ALLW := in_all (List.mem_append_right _ (List.mem_of_getElem? (i := 400) (by decide +kernel))) rfl
theorem ml_X3_11 : (.methodLink RX3 11 yX0_costs : Cond) ∈ ALLW := in_all (List.mem_append_right _ (List.mem_of_getElem? (i := 401) (by decide +kernel))) rfl
theorem se_X4_X6_costs_X4_costs : (.selects RX4 yX6_costs yX4_costs : Cond) ∈ ALLW := in_all (List.mem_append_right _ (List.mem_of_getElem? (i := 402) (by decide +kernel))) rfl
theorem im_X4_costs : (.instanceMethod yX4_costs : Cond) ∈ ALLW := in_all (List.mem_append_right _ (List.mem_of_getElem? (i := 403) (by decide +kernel))) rfl
theorem cd_X4_costs : (.code yX4_costs cX4_costs 2 (some (.int)) : Cond) ∈ ALLW := in_all (List.mem_append_right _ (List.mem_of_getElem? (i := 404) (by decide +kernel))) rfl
theorem ml_X4_7 : (.methodLink RX4 7 ⟨"TideTreaty$Oath", "costs", "(I)I"⟩ : Cond) ∈ ALLW := in_all (List.mem_append_right _ (List.mem_of_getElem? (i := 405) (by decide +kernel))) rfl
theorem sm_X5_X6_costs : (.sameMethod "TideTreaty$Oath" "TideTreaty$Plain" "costs" "(I)I" : Cond) ∈ ALLW := in_all (List.mem_append_right _ (List.mem_of_getElem? (i := 406) (by decide +kernel))) rfl
theorem se_X5_X6_costs_X6_costs : (.selects RX5 yX6_costs yX6_costs : Cond) ∈ ALLW := in_all (List.mem_append_right _ (List.mem_of_getElem? (i := 408) (by decide +kernel))) rfl
theorem cd_X6_costs : (.code yX6_costs cX6_costs 2 (some (.int)) : Cond) ∈ ALLW := in_all (List.mem_append_right _ (List.mem_of_getElem? (i := 409) (by decide +kernel))) rfl
theorem ml_L_45 : (.methodLink RL 45 yX11_end : Cond) ∈ ALLW := in_all (List.mem_append_right _ (List.mem_of_getElem? (i := 410) (by decide +kernel))) rfl
theorem im_X11_end : (.instanceMethod yX11_end : Cond) ∈ ALLW := in_all (List.mem_append_right _ (List.mem_of_getElem? (i := 411) (by decide +kernel))) rfl
theorem se_X11_X11_end_X11_end : (.selects RX11 yX11_end yX11_end : Cond) ∈ ALLW := in_all (List.mem_append_right _ (List.mem_of_getElem? (i := 412) (by decide +kernel))) rfl
theorem cd_X11_end : (.code yX11_end cX11_end 3 (some (.int)) : Cond) ∈ ALLW := in_all (List.mem_append_right _ (List.mem_of_getElem? (i := 413) (by decide +kernel))) rfl
theorem ml_X11_96 : (.methodLink RX11 96 yX11_isTreaty : Cond) ∈ ALLW := in_all (List.mem_append_right _ (List.mem_of_getElem? (i := 414) (by decide +kernel))) rfl
theorem im_X11_isTreaty : (.instanceMethod yX11_isTreaty : Cond) ∈ ALLW := in_all (List.mem_append_right _ (List.mem_of_getElem? (i := 416) (by decide +kernel))) rfl
theorem cd_X11_isTreaty : (.code yX11_isTreaty cX11_isTreaty 2 (some (.boolean)) : Cond) ∈ ALLW := in_all (List.mem_append_right _ (List.mem_of_getElem? (i := 417) (by decide +kernel))) rfl
theorem ml_X11_113 : (.methodLink RX11 113 yX9_runsIn : Cond) ∈ ALLW := in_all (List.mem_append_right _ (List.mem_of_getElem? (i := 418) (by decide +kernel))) rfl
theorem im_X9_runsIn : (.instanceMethod yX9_runsIn : Cond) ∈ ALLW := in_all (List.mem_append_right _ (List.mem_of_getElem? (i := 419) (by decide +kernel))) rfl
theorem se_X9_X9_runsIn_X9_runsIn : (.selects RX9 yX9_runsIn yX9_runsIn : Cond) ∈ ALLW := in_all (List.mem_append_right _ (List.mem_of_getElem? (i := 420) (by decide +kernel))) rfl
theorem cd_X9_runsIn : (.code yX9_runsIn cX9_runsIn 2 (some (.boolean)) : Cond) ∈ ALLW := in_all (List.mem_append_right _ (List.mem_of_getElem? (i := 421) (by decide +kernel))) rfl
theorem ml_L_49 : (.methodLink RL 49 yX11_type : Cond) ∈ ALLW := in_all (List.mem_append_right _ (List.mem_of_getElem? (i := 422) (by decide +kernel))) rfl
theorem im_X11_type : (.instanceMethod yX11_type : Cond) ∈ ALLW := in_all (List.mem_append_right _ (List.mem_of_getElem? (i := 423) (by decide +kernel))) rfl
theorem se_X11_X11_type_X11_type : (.selects RX11 yX11_type yX11_type : Cond) ∈ ALLW := in_all (List.mem_append_right _ (List.mem_of_getElem? (i := 424) (by decide +kernel))) rfl
theorem cd_X11_type : (.code yX11_type cX11_type 2 (some (.int)) : Cond) ∈ ALLW := in_all (List.mem_append_right _ (List.mem_of_getElem? (i := 425) (by decide +kernel))) rfl
theorem ml_L_53 : (.methodLink RL 53 yX11_clear : Cond) ∈ ALLW := in_all (List.mem_append_right _ (List.mem_of_getElem? (i := 426) (by decide +kernel))) rfl
theorem im_X11_clear : (.instanceMethod yX11_clear : Cond) ∈ ALLW := in_all (List.mem_append_right _ (List.mem_of_getElem? (i := 427) (by decide +kernel))) rfl
theorem se_X11_X11_clear_X11_clear : (.selects RX11 yX11_clear yX11_clear : Cond) ∈ ALLW := in_all (List.mem_append_right _ (List.mem_of_getElem? (i := 428) (by decide +kernel))) rfl
theorem cd_X11_clear : (.code yX11_clear cX11_clear 2 (some (.int)) : Cond) ∈ ALLW := in_all (List.mem_append_right _ (List.mem_of_getElem? (i := 429) (by decide +kernel))) rfl
theorem ml_L_58 : (.methodLink RL 58 yX11_read : Cond) ∈ ALLW := in_all (List.mem_append_right _ (List.mem_of_getElem? (i := 430) (by decide +kernel))) rfl
theorem im_X11_read : (.instanceMethod yX11_read : Cond) ∈ ALLW := in_all (List.mem_append_right _ (List.mem_of_getElem? (i := 431) (by decide +kernel))) rfl
theorem se_X11_X11_read_X11_read : (.selects RX11 yX11_read yX11_read : Cond) ∈ ALLW := in_all (List.mem_append_right _ (List.mem_of_getElem? (i := 432) (by decide +kernel))) rfl
theorem cd_X11_read : (.code yX11_read cX11_read 3 (some (.int)) : Cond) ∈ ALLW := in_all (List.mem_append_right _ (List.mem_of_getElem? (i := 433) (by decide +kernel))) rfl
theorem ml_X11_127 : (.methodLink RX11 127 yX7_parse : Cond) ∈ ALLW := in_all (List.mem_append_right _ (List.mem_of_getElem? (i := 434) (by decide +kernel))) rfl
theorem im_X7_parse : (.instanceMethod yX7_parse : Cond) ∈ ALLW := in_all (List.mem_append_right _ (List.mem_of_getElem? (i := 435) (by decide +kernel))) rfl
theorem se_X7_X7_parse_X7_parse : (.selects RX7 yX7_parse yX7_parse : Cond) ∈ ALLW := in_all (List.mem_append_right _ (List.mem_of_getElem? (i := 436) (by decide +kernel))) rfl
theorem cd_X7_parse : (.code yX7_parse cX7_parse 3 (some (.int)) : Cond) ∈ ALLW := in_all (List.mem_append_right _ (List.mem_of_getElem? (i := 437) (by decide +kernel))) rfl
theorem ml_X7_31 : (.methodLink RX7 31 yX7_skipBlanks : Cond) ∈ ALLW := in_all (List.mem_append_right _ (List.mem_of_getElem? (i := 438) (by decide +kernel))) rfl
theorem im_X7_skipBlanks : (.instanceMethod yX7_skipBlanks : Cond) ∈ ALLW := in_all (List.mem_append_right _ (List.mem_of_getElem? (i := 440) (by decide +kernel))) rfl
theorem cd_X7_skipBlanks : (.code yX7_skipBlanks cX7_skipBlanks 1 none : Cond) ∈ ALLW := in_all (List.mem_append_right _ (List.mem_of_getElem? (i := 441) (by decide +kernel))) rfl
theorem ml_X7_37 : (.methodLink RX7 37 yX7_takeToken : Cond) ∈ ALLW := in_all (List.mem_append_right _ (List.mem_of_getElem? (i := 442) (by decide +kernel))) rfl
theorem im_X7_takeToken : (.instanceMethod yX7_takeToken : Cond) ∈ ALLW := in_all (List.mem_append_right _ (List.mem_of_getElem? (i := 444) (by decide +kernel))) rfl
theorem cd_X7_takeToken : (.code yX7_takeToken cX7_takeToken 2 (some (.boolean)) : Cond) ∈ ALLW := in_all (List.mem_append_right _ (List.mem_of_getElem? (i := 445) (by decide +kernel))) rfl
theorem ml_X7_41 : (.methodLink RX7 41 yX7_isLetter : Cond) ∈ ALLW := in_all (List.mem_append_right _ (List.mem_of_getElem? (i := 446) (by decide +kernel))) rfl
theorem st_X7_isLetter : (.static yX7_isLetter : Cond) ∈ ALLW := in_all (List.mem_append_right _ (List.mem_of_getElem? (i := 447) (by decide +kernel))) rfl
theorem cd_X7_isLetter : (.code yX7_isLetter cX7_isLetter 1 (some (.boolean)) : Cond) ∈ ALLW := in_all (List.mem_append_right _ (List.mem_of_getElem? (i := 448) (by decide +kernel))) rfl
theorem ml_X7_44 : (.methodLink RX7 44 yX7_takeWord : Cond) ∈ ALLW := in_all (List.mem_append_right _ (List.mem_of_getElem? (i := 450) (by decide +kernel))) rfl
theorem im_X7_takeWord : (.instanceMethod yX7_takeWord : Cond) ∈ ALLW := in_all (List.mem_append_right _ (List.mem_of_getElem? (i := 452) (by decide +kernel))) rfl
theorem cd_X7_takeWord : (.code yX7_takeWord cX7_takeWord 3 (some (.boolean)) : Cond) ∈ ALLW := in_all (List.mem_append_right _ (List.mem_of_getElem? (i := 453) (by decide +kernel))) rfl
theorem ml_X7_61 : (.methodLink RX7 61 yX7_wordAt : Cond) ∈ ALLW := in_all (List.mem_append_right _ (List.mem_of_getElem? (i := 454) (by decide +kernel))) rfl
theorem im_X7_wordAt : (.instanceMethod yX7_wordAt : Cond) ∈ ALLW := in_all (List.mem_append_right _ (List.mem_of_getElem? (i := 456) (by decide +kernel))) rfl
theorem cd_X7_wordAt : (.code yX7_wordAt cX7_wordAt 3 (some (.int)) : Cond) ∈ ALLW := in_all (List.mem_append_right _ (List.mem_of_getElem? (i := 457) (by decide +kernel))) rfl
theorem ml_X7_70 : (.methodLink RX7 70 yX7_spells : Cond) ∈ ALLW := in_all (List.mem_append_right _ (List.mem_of_getElem? (i := 459) (by decide +kernel))) rfl
theorem im_X7_spells : (.instanceMethod yX7_spells : Cond) ∈ ALLW := in_all (List.mem_append_right _ (List.mem_of_getElem? (i := 461) (by decide +kernel))) rfl
theorem cd_X7_spells : (.code yX7_spells cX7_spells 5 (some (.boolean)) : Cond) ∈ ALLW := in_all (List.mem_append_right _ (List.mem_of_getElem? (i := 462) (by decide +kernel))) rfl
theorem ml_X7_84 : (.methodLink RX7 84 yJ0_length_8abf5 : Cond) ∈ ALLW := in_all (List.mem_append_right _ (List.mem_of_getElem? (i := 463) (by decide +kernel))) rfl
theorem im_J0_length_8abf5 : (.instanceMethod yJ0_length_8abf5 : Cond) ∈ ALLW := in_all (List.mem_append_right _ (List.mem_of_getElem? (i := 464) (by decide +kernel))) rfl
theorem se_J0_J0_length_8abf5_J0_length_8abf5 : (.selects RJ0 yJ0_length_8abf5 yJ0_length_8abf5 : Cond) ∈ ALLW := in_all (List.mem_append_right _ (List.mem_of_getElem? (i := 465) (by decide +kernel))) rfl
theorem cd_J0_length_8abf5 : (.code yJ0_length_8abf5 cJ0_length_8abf5 1 (some (.int)) : Cond) ∈ ALLW := in_all (List.mem_append_right _ (List.mem_of_getElem? (i := 466) (by decide +kernel))) rfl
theorem ml_J0_335 : (.methodLink RJ0 335 yJ0_coder_7d493 : Cond) ∈ ALLW := in_all (List.mem_append_right _ (List.mem_of_getElem? (i := 467) (by decide +kernel))) rfl
theorem im_J0_coder_7d493 : (.instanceMethod yJ0_coder_7d493 : Cond) ∈ ALLW := in_all (List.mem_append_right _ (List.mem_of_getElem? (i := 468) (by decide +kernel))) rfl
theorem se_J0_J0_coder_7d493_J0_coder_7d493 : (.selects RJ0 yJ0_coder_7d493 yJ0_coder_7d493 : Cond) ∈ ALLW := in_all (List.mem_append_right _ (List.mem_of_getElem? (i := 469) (by decide +kernel))) rfl
theorem cd_J0_coder_7d493 : (.code yJ0_coder_7d493 cJ0_coder_7d493 1 (some (.byte)) : Cond) ∈ ALLW := in_all (List.mem_append_right _ (List.mem_of_getElem? (i := 470) (by decide +kernel))) rfl
theorem fl_J0_38 : (.fieldLink RJ0 38 "java/lang/String" "COMPACT_STRINGS" "Z" : Cond) ∈ ALLW := in_all (List.mem_append_right _ (List.mem_of_getElem? (i := 471) (by decide +kernel))) rfl
theorem ml_X7_89 : (.methodLink RX7 89 yJ0_charAt_5068e : Cond) ∈ ALLW := in_all (List.mem_append_right _ (List.mem_of_getElem? (i := 473) (by decide +kernel))) rfl
theorem im_J0_charAt_5068e : (.instanceMethod yJ0_charAt_5068e : Cond) ∈ ALLW := in_all (List.mem_append_right _ (List.mem_of_getElem? (i := 474) (by decide +kernel))) rfl
theorem se_J0_J0_charAt_5068e_J0_charAt_5068e : (.selects RJ0 yJ0_charAt_5068e yJ0_charAt_5068e : Cond) ∈ ALLW := in_all (List.mem_append_right _ (List.mem_of_getElem? (i := 475) (by decide +kernel))) rfl
theorem cd_J0_charAt_5068e : (.code yJ0_charAt_5068e cJ0_charAt_5068e 2 (some (.char)) : Cond) ∈ ALLW := in_all (List.mem_append_right _ (List.mem_of_getElem? (i := 476) (by decide +kernel))) rfl
theorem ml_J0_492 : (.methodLink RJ0 492 yJ0_isLatin1_aae02 : Cond) ∈ ALLW := in_all (List.mem_append_right _ (List.mem_of_getElem? (i := 477) (by decide +kernel))) rfl
theorem im_J0_isLatin1_aae02 : (.instanceMethod yJ0_isLatin1_aae02 : Cond) ∈ ALLW := in_all (List.mem_append_right _ (List.mem_of_getElem? (i := 478) (by decide +kernel))) rfl
theorem se_J0_J0_isLatin1_aae02_J0_isLatin1_aae02 : (.selects RJ0 yJ0_isLatin1_aae02 yJ0_isLatin1_aae02 : Cond) ∈ ALLW := in_all (List.mem_append_right _ (List.mem_of_getElem? (i := 479) (by decide +kernel))) rfl
theorem cd_J0_isLatin1_aae02 : (.code yJ0_isLatin1_aae02 cJ0_isLatin1_aae02 1 (some (.boolean)) : Cond) ∈ ALLW := in_all (List.mem_append_right _ (List.mem_of_getElem? (i := 480) (by decide +kernel))) rfl
theorem ml_J0_495 : (.methodLink RJ0 495 yJ1_charAt_3b067 : Cond) ∈ ALLW := in_all (List.mem_append_right _ (List.mem_of_getElem? (i := 481) (by decide +kernel))) rfl
theorem st_J1_charAt_3b067 : (.static yJ1_charAt_3b067 : Cond) ∈ ALLW := in_all (List.mem_append_right _ (List.mem_of_getElem? (i := 482) (by decide +kernel))) rfl
theorem cd_J1_charAt_3b067 : (.code yJ1_charAt_3b067 cJ1_charAt_3b067 2 (some (.char)) : Cond) ∈ ALLW := in_all (List.mem_append_right _ (List.mem_of_getElem? (i := 483) (by decide +kernel))) rfl
theorem ml_J1_9 : (.methodLink RJ1 9 yJ0_checkIndex_df160 : Cond) ∈ ALLW := in_all (List.mem_append_right _ (List.mem_of_getElem? (i := 484) (by decide +kernel))) rfl
theorem st_J0_checkIndex_df160 : (.static yJ0_checkIndex_df160 : Cond) ∈ ALLW := in_all (List.mem_append_right _ (List.mem_of_getElem? (i := 485) (by decide +kernel))) rfl
theorem cd_J0_checkIndex_df160 : (.code yJ0_checkIndex_df160 cJ0_checkIndex_df160 2 none : Cond) ∈ ALLW := in_all (List.mem_append_right _ (List.mem_of_getElem? (i := 486) (by decide +kernel))) rfl
theorem fl_J0_1053 : (.fieldLink RJ0 1053 "jdk/internal/util/Preconditions" "SIOOBE_FORMATTER" "Ljava/util/function/BiFunction;" : Cond) ∈ ALLW := in_all (List.mem_append_right _ (List.mem_of_getElem? (i := 487) (by decide +kernel))) rfl
theorem ml_J0_1059 : (.methodLink RJ0 1059 yJ3_checkIndex_8e157 : Cond) ∈ ALLW := in_all (List.mem_append_right _ (List.mem_of_getElem? (i := 489) (by decide +kernel))) rfl
theorem st_J3_checkIndex_8e157 : (.static yJ3_checkIndex_8e157 : Cond) ∈ ALLW := in_all (List.mem_append_right _ (List.mem_of_getElem? (i := 490) (by decide +kernel))) rfl
theorem cd_J3_checkIndex_8e157 : (.code yJ3_checkIndex_8e157 cJ3_checkIndex_8e157 3 (some (.int)) : Cond) ∈ ALLW := in_all (List.mem_append_right _ (List.mem_of_getElem? (i := 491) (by decide +kernel))) rfl
theorem ml_J0_498 : (.methodLink RJ0 498 yJ2_charAt_3b067 : Cond) ∈ ALLW := in_all (List.mem_append_right _ (List.mem_of_getElem? (i := 492) (by decide +kernel))) rfl
theorem st_J2_charAt_3b067 : (.static yJ2_charAt_3b067 : Cond) ∈ ALLW := in_all (List.mem_append_right _ (List.mem_of_getElem? (i := 493) (by decide +kernel))) rfl
theorem cd_J2_charAt_3b067 : (.code yJ2_charAt_3b067 cJ2_charAt_3b067 2 (some (.char)) : Cond) ∈ ALLW := in_all (List.mem_append_right _ (List.mem_of_getElem? (i := 494) (by decide +kernel))) rfl
theorem ml_J2_67 : (.methodLink RJ2 67 yJ2_checkIndex_2214a : Cond) ∈ ALLW := in_all (List.mem_append_right _ (List.mem_of_getElem? (i := 495) (by decide +kernel))) rfl
theorem st_J2_checkIndex_2214a : (.static yJ2_checkIndex_2214a : Cond) ∈ ALLW := in_all (List.mem_append_right _ (List.mem_of_getElem? (i := 496) (by decide +kernel))) rfl
theorem cd_J2_checkIndex_2214a : (.code yJ2_checkIndex_2214a cJ2_checkIndex_2214a 2 none : Cond) ∈ ALLW := in_all (List.mem_append_right _ (List.mem_of_getElem? (i := 497) (by decide +kernel))) rfl
theorem ml_J2_48 : (.methodLink RJ2 48 yJ2_length_9d52b : Cond) ∈ ALLW := in_all (List.mem_append_right _ (List.mem_of_getElem? (i := 498) (by decide +kernel))) rfl
theorem st_J2_length_9d52b : (.static yJ2_length_9d52b : Cond) ∈ ALLW := in_all (List.mem_append_right _ (List.mem_of_getElem? (i := 499) (by decide +kernel))) rfl
theorem cd_J2_length_9d52b : (.code yJ2_length_9d52b cJ2_length_9d52b 1 (some (.int)) : Cond) ∈ ALLW := in_all (List.mem_append_right _ (List.mem_of_getElem? (i := 500) (by decide +kernel))) rfl
theorem ml_J2_414 : (.methodLink RJ2 414 yJ0_checkIndex_df160 : Cond) ∈ ALLW := in_all (List.mem_append_right _ (List.mem_of_getElem? (i := 501) (by decide +kernel))) rfl
theorem ml_J2_71 : (.methodLink RJ2 71 yJ2_getChar_3b067 : Cond) ∈ ALLW := in_all (List.mem_append_right _ (List.mem_of_getElem? (i := 502) (by decide +kernel))) rfl
theorem st_J2_getChar_3b067 : (.static yJ2_getChar_3b067 : Cond) ∈ ALLW := in_all (List.mem_append_right _ (List.mem_of_getElem? (i := 503) (by decide +kernel))) rfl
theorem cd_J2_getChar_3b067 : (.code yJ2_getChar_3b067 cJ2_getChar_3b067 2 (some (.char)) : Cond) ∈ ALLW := in_all (List.mem_append_right _ (List.mem_of_getElem? (i := 504) (by decide +kernel))) rfl
theorem fl_J2_44 : (.fieldLink RJ2 44 "java/lang/StringUTF16" "$assertionsDisabled" "Z" : Cond) ∈ ALLW := in_all (List.mem_append_right _ (List.mem_of_getElem? (i := 505) (by decide +kernel))) rfl
theorem fl_J2_59 : (.fieldLink RJ2 59 "java/lang/StringUTF16" "HI_BYTE_SHIFT" "I" : Cond) ∈ ALLW := in_all (List.mem_append_right _ (List.mem_of_getElem? (i := 507) (by decide +kernel))) rfl
theorem fl_J2_63 : (.fieldLink RJ2 63 "java/lang/StringUTF16" "LO_BYTE_SHIFT" "I" : Cond) ∈ ALLW := in_all (List.mem_append_right _ (List.mem_of_getElem? (i := 509) (by decide +kernel))) rfl
theorem fl_X7_65 : (.fieldLink RX7 65 "TideTreaty$Script" "NUMBERS_BEHIND" "[I" : Cond) ∈ ALLW := in_all (List.mem_append_right _ (List.mem_of_getElem? (i := 516) (by decide +kernel))) rfl
theorem ml_X7_48 : (.methodLink RX7 48 yX7_isFigure : Cond) ∈ ALLW := in_all (List.mem_append_right _ (List.mem_of_getElem? (i := 518) (by decide +kernel))) rfl
theorem st_X7_isFigure : (.static yX7_isFigure : Cond) ∈ ALLW := in_all (List.mem_append_right _ (List.mem_of_getElem? (i := 519) (by decide +kernel))) rfl
theorem cd_X7_isFigure : (.code yX7_isFigure cX7_isFigure 1 (some (.boolean)) : Cond) ∈ ALLW := in_all (List.mem_append_right _ (List.mem_of_getElem? (i := 520) (by decide +kernel))) rfl
theorem ml_X7_51 : (.methodLink RX7 51 yX7_takeNumber : Cond) ∈ ALLW := in_all (List.mem_append_right _ (List.mem_of_getElem? (i := 521) (by decide +kernel))) rfl
theorem im_X7_takeNumber : (.instanceMethod yX7_takeNumber : Cond) ∈ ALLW := in_all (List.mem_append_right _ (List.mem_of_getElem? (i := 523) (by decide +kernel))) rfl
theorem cd_X7_takeNumber : (.code yX7_takeNumber cX7_takeNumber 4 (some (.boolean)) : Cond) ∈ ALLW := in_all (List.mem_append_right _ (List.mem_of_getElem? (i := 524) (by decide +kernel))) rfl
theorem ml_X7_54 : (.methodLink RX7 54 yX7_takeEnd : Cond) ∈ ALLW := in_all (List.mem_append_right _ (List.mem_of_getElem? (i := 525) (by decide +kernel))) rfl
theorem im_X7_takeEnd : (.instanceMethod yX7_takeEnd : Cond) ∈ ALLW := in_all (List.mem_append_right _ (List.mem_of_getElem? (i := 527) (by decide +kernel))) rfl
theorem cd_X7_takeEnd : (.code yX7_takeEnd cX7_takeEnd 1 (some (.boolean)) : Cond) ∈ ALLW := in_all (List.mem_append_right _ (List.mem_of_getElem? (i := 528) (by decide +kernel))) rfl
theorem ml_X11_134 : (.methodLink RX11 134 yX7_tellItem : Cond) ∈ ALLW := in_all (List.mem_append_right _ (List.mem_of_getElem? (i := 529) (by decide +kernel))) rfl
theorem im_X7_tellItem : (.instanceMethod yX7_tellItem : Cond) ∈ ALLW := in_all (List.mem_append_right _ (List.mem_of_getElem? (i := 530) (by decide +kernel))) rfl
theorem se_X7_X7_tellItem_X7_tellItem : (.selects RX7 yX7_tellItem yX7_tellItem : Cond) ∈ ALLW := in_all (List.mem_append_right _ (List.mem_of_getElem? (i := 531) (by decide +kernel))) rfl
theorem cd_X7_tellItem : (.code yX7_tellItem cX7_tellItem 8 (some (.int)) : Cond) ∈ ALLW := in_all (List.mem_append_right _ (List.mem_of_getElem? (i := 532) (by decide +kernel))) rfl
theorem ml_X7_93 : (.methodLink RX7 93 yX8_tellCoast : Cond) ∈ ALLW := in_all (List.mem_append_right _ (List.mem_of_getElem? (i := 533) (by decide +kernel))) rfl
theorem ml_X7_99 : (.methodLink RX7 99 yX8_tellCell : Cond) ∈ ALLW := in_all (List.mem_append_right _ (List.mem_of_getElem? (i := 534) (by decide +kernel))) rfl
theorem ml_X7_103 : (.methodLink RX7 103 yX8_tellDike : Cond) ∈ ALLW := in_all (List.mem_append_right _ (List.mem_of_getElem? (i := 535) (by decide +kernel))) rfl
theorem ml_X7_106 : (.methodLink RX7 106 yX8_tellWant : Cond) ∈ ALLW := in_all (List.mem_append_right _ (List.mem_of_getElem? (i := 536) (by decide +kernel))) rfl
theorem ml_X7_109 : (.methodLink RX7 109 yX8_tellMoon : Cond) ∈ ALLW := in_all (List.mem_append_right _ (List.mem_of_getElem? (i := 537) (by decide +kernel))) rfl
theorem ml_X7_112 : (.methodLink RX7 112 yX8_tellTreaty : Cond) ∈ ALLW := in_all (List.mem_append_right _ (List.mem_of_getElem? (i := 538) (by decide +kernel))) rfl
theorem ml_X11_138 : (.methodLink RX11 138 yX2_copyOf : Cond) ∈ ALLW := in_all (List.mem_append_right _ (List.mem_of_getElem? (i := 539) (by decide +kernel))) rfl
theorem im_X2_copyOf : (.instanceMethod yX2_copyOf : Cond) ∈ ALLW := in_all (List.mem_append_right _ (List.mem_of_getElem? (i := 540) (by decide +kernel))) rfl
theorem se_X2_X2_copyOf_X2_copyOf : (.selects RX2 yX2_copyOf yX2_copyOf : Cond) ∈ ALLW := in_all (List.mem_append_right _ (List.mem_of_getElem? (i := 541) (by decide +kernel))) rfl
theorem cd_X2_copyOf : (.code yX2_copyOf cX2_copyOf 3 none : Cond) ∈ ALLW := in_all (List.mem_append_right _ (List.mem_of_getElem? (i := 542) (by decide +kernel))) rfl
theorem ml_X2_63 : (.methodLink RX2 63 ⟨"java/lang/System", "arraycopy", "(Ljava/lang/Object;ILjava/lang/Object;II)V"⟩ : Cond) ∈ ALLW := in_all (List.mem_append_right _ (List.mem_of_getElem? (i := 543) (by decide +kernel))) rfl
theorem st_J10_arraycopy : (.static ⟨"java/lang/System", "arraycopy", "(Ljava/lang/Object;ILjava/lang/Object;II)V"⟩ : Cond) ∈ ALLW := in_all (List.mem_append_right _ (List.mem_of_getElem? (i := 544) (by decide +kernel))) rfl
theorem na_arraycopy : (.native arraycopyName : Cond) ∈ ALLW := in_all (List.mem_append_right _ (List.mem_of_getElem? (i := 545) (by decide +kernel))) rfl
theorem ml_X2_69 : (.methodLink RX2 69 yX9_copyOf : Cond) ∈ ALLW := in_all (List.mem_append_right _ (List.mem_of_getElem? (i := 546) (by decide +kernel))) rfl
theorem im_X9_copyOf : (.instanceMethod yX9_copyOf : Cond) ∈ ALLW := in_all (List.mem_append_right _ (List.mem_of_getElem? (i := 547) (by decide +kernel))) rfl
theorem se_X9_X9_copyOf_X9_copyOf : (.selects RX9 yX9_copyOf yX9_copyOf : Cond) ∈ ALLW := in_all (List.mem_append_right _ (List.mem_of_getElem? (i := 548) (by decide +kernel))) rfl
theorem cd_X9_copyOf : (.code yX9_copyOf cX9_copyOf 2 none : Cond) ∈ ALLW := in_all (List.mem_append_right _ (List.mem_of_getElem? (i := 549) (by decide +kernel))) rfl
theorem ml_X11_142 : (.methodLink RX11 142 yX10_copyOf : Cond) ∈ ALLW := in_all (List.mem_append_right _ (List.mem_of_getElem? (i := 550) (by decide +kernel))) rfl
theorem im_X10_copyOf : (.instanceMethod yX10_copyOf : Cond) ∈ ALLW := in_all (List.mem_append_right _ (List.mem_of_getElem? (i := 551) (by decide +kernel))) rfl
theorem se_X10_X10_copyOf_X10_copyOf : (.selects RX10 yX10_copyOf yX10_copyOf : Cond) ∈ ALLW := in_all (List.mem_append_right _ (List.mem_of_getElem? (i := 552) (by decide +kernel))) rfl
theorem cd_X10_copyOf : (.code yX10_copyOf cX10_copyOf 2 none : Cond) ∈ ALLW := in_all (List.mem_append_right _ (List.mem_of_getElem? (i := 553) (by decide +kernel))) rfl
theorem ml_X10_28 : (.methodLink RX10 28 ⟨"java/lang/System", "arraycopy", "(Ljava/lang/Object;ILjava/lang/Object;II)V"⟩ : Cond) ∈ ALLW := in_all (List.mem_append_right _ (List.mem_of_getElem? (i := 554) (by decide +kernel))) rfl
theorem ac_byte : (.arrayClass .byte : Cond) ∈ ALLW := in_all (List.mem_append_right _ (List.mem_of_getElem? (i := 555) (by decide +kernel))) rfl
theorem ml_L_62 : (.methodLink RL 62 yX11_year : Cond) ∈ ALLW := in_all (List.mem_append_right _ (List.mem_of_getElem? (i := 556) (by decide +kernel))) rfl
theorem im_X11_year : (.instanceMethod yX11_year : Cond) ∈ ALLW := in_all (List.mem_append_right _ (List.mem_of_getElem? (i := 557) (by decide +kernel))) rfl
theorem se_X11_X11_year_X11_year : (.selects RX11 yX11_year yX11_year : Cond) ∈ ALLW := in_all (List.mem_append_right _ (List.mem_of_getElem? (i := 558) (by decide +kernel))) rfl
theorem cd_X11_year : (.code yX11_year cX11_year 3 (some (.int)) : Cond) ∈ ALLW := in_all (List.mem_append_right _ (List.mem_of_getElem? (i := 559) (by decide +kernel))) rfl
theorem ml_X11_145 : (.methodLink RX11 145 yX8_keepPast : Cond) ∈ ALLW := in_all (List.mem_append_right _ (List.mem_of_getElem? (i := 560) (by decide +kernel))) rfl
theorem im_X8_keepPast : (.instanceMethod yX8_keepPast : Cond) ∈ ALLW := in_all (List.mem_append_right _ (List.mem_of_getElem? (i := 561) (by decide +kernel))) rfl
theorem se_X8_X8_keepPast_X8_keepPast : (.selects RX8 yX8_keepPast yX8_keepPast : Cond) ∈ ALLW := in_all (List.mem_append_right _ (List.mem_of_getElem? (i := 562) (by decide +kernel))) rfl
theorem cd_X8_keepPast : (.code yX8_keepPast cX8_keepPast 1 none : Cond) ∈ ALLW := in_all (List.mem_append_right _ (List.mem_of_getElem? (i := 563) (by decide +kernel))) rfl
theorem ml_X8_48 : (.methodLink RX8 48 yX8_forgetOldest : Cond) ∈ ALLW := in_all (List.mem_append_right _ (List.mem_of_getElem? (i := 564) (by decide +kernel))) rfl
theorem im_X8_forgetOldest : (.instanceMethod yX8_forgetOldest : Cond) ∈ ALLW := in_all (List.mem_append_right _ (List.mem_of_getElem? (i := 566) (by decide +kernel))) rfl
theorem cd_X8_forgetOldest : (.code yX8_forgetOldest cX8_forgetOldest 3 none : Cond) ∈ ALLW := in_all (List.mem_append_right _ (List.mem_of_getElem? (i := 567) (by decide +kernel))) rfl
theorem ml_X8_41 : (.methodLink RX8 41 yX10_copyOf : Cond) ∈ ALLW := in_all (List.mem_append_right _ (List.mem_of_getElem? (i := 568) (by decide +kernel))) rfl
theorem ml_X11_148 : (.methodLink RX11 148 yX2_stormOf : Cond) ∈ ALLW := in_all (List.mem_append_right _ (List.mem_of_getElem? (i := 569) (by decide +kernel))) rfl
theorem im_X2_stormOf : (.instanceMethod yX2_stormOf : Cond) ∈ ALLW := in_all (List.mem_append_right _ (List.mem_of_getElem? (i := 570) (by decide +kernel))) rfl
theorem se_X2_X2_stormOf_X2_stormOf : (.selects RX2 yX2_stormOf yX2_stormOf : Cond) ∈ ALLW := in_all (List.mem_append_right _ (List.mem_of_getElem? (i := 571) (by decide +kernel))) rfl
theorem cd_X2_stormOf : (.code yX2_stormOf cX2_stormOf 2 (some (.int)) : Cond) ∈ ALLW := in_all (List.mem_append_right _ (List.mem_of_getElem? (i := 572) (by decide +kernel))) rfl
theorem ml_X2_107 : (.methodLink RX2 107 yX2_springMore : Cond) ∈ ALLW := in_all (List.mem_append_right _ (List.mem_of_getElem? (i := 573) (by decide +kernel))) rfl
theorem im_X2_springMore : (.instanceMethod yX2_springMore : Cond) ∈ ALLW := in_all (List.mem_append_right _ (List.mem_of_getElem? (i := 574) (by decide +kernel))) rfl
theorem se_X2_X2_springMore_X2_springMore : (.selects RX2 yX2_springMore yX2_springMore : Cond) ∈ ALLW := in_all (List.mem_append_right _ (List.mem_of_getElem? (i := 575) (by decide +kernel))) rfl
theorem cd_X2_springMore : (.code yX2_springMore cX2_springMore 2 (some (.int)) : Cond) ∈ ALLW := in_all (List.mem_append_right _ (List.mem_of_getElem? (i := 576) (by decide +kernel))) rfl
theorem ml_X2_103 : (.methodLink RX2 103 yX2_isSpring : Cond) ∈ ALLW := in_all (List.mem_append_right _ (List.mem_of_getElem? (i := 577) (by decide +kernel))) rfl
theorem im_X2_isSpring : (.instanceMethod yX2_isSpring : Cond) ∈ ALLW := in_all (List.mem_append_right _ (List.mem_of_getElem? (i := 578) (by decide +kernel))) rfl
theorem se_X2_X2_isSpring_X2_isSpring : (.selects RX2 yX2_isSpring yX2_isSpring : Cond) ∈ ALLW := in_all (List.mem_append_right _ (List.mem_of_getElem? (i := 579) (by decide +kernel))) rfl
theorem cd_X2_isSpring : (.code yX2_isSpring cX2_isSpring 2 (some (.boolean)) : Cond) ∈ ALLW := in_all (List.mem_append_right _ (List.mem_of_getElem? (i := 580) (by decide +kernel))) rfl
theorem ml_X11_151 : (.methodLink RX11 151 yX2_runYear : Cond) ∈ ALLW := in_all (List.mem_append_right _ (List.mem_of_getElem? (i := 581) (by decide +kernel))) rfl
theorem im_X2_runYear : (.instanceMethod yX2_runYear : Cond) ∈ ALLW := in_all (List.mem_append_right _ (List.mem_of_getElem? (i := 582) (by decide +kernel))) rfl
theorem se_X2_X2_runYear_X2_runYear : (.selects RX2 yX2_runYear yX2_runYear : Cond) ∈ ALLW := in_all (List.mem_append_right _ (List.mem_of_getElem? (i := 583) (by decide +kernel))) rfl
theorem cd_X2_runYear : (.code yX2_runYear cX2_runYear 6 (some (.int)) : Cond) ∈ ALLW := in_all (List.mem_append_right _ (List.mem_of_getElem? (i := 584) (by decide +kernel))) rfl
theorem ml_X2_139 : (.methodLink RX2 139 yX2_payDues : Cond) ∈ ALLW := in_all (List.mem_append_right _ (List.mem_of_getElem? (i := 585) (by decide +kernel))) rfl
theorem im_X2_payDues : (.instanceMethod yX2_payDues : Cond) ∈ ALLW := in_all (List.mem_append_right _ (List.mem_of_getElem? (i := 587) (by decide +kernel))) rfl
theorem cd_X2_payDues : (.code yX2_payDues cX2_payDues 5 none : Cond) ∈ ALLW := in_all (List.mem_append_right _ (List.mem_of_getElem? (i := 588) (by decide +kernel))) rfl
theorem ml_X2_115 : (.methodLink RX2 115 yX10_isBreached : Cond) ∈ ALLW := in_all (List.mem_append_right _ (List.mem_of_getElem? (i := 589) (by decide +kernel))) rfl
theorem im_X10_isBreached : (.instanceMethod yX10_isBreached : Cond) ∈ ALLW := in_all (List.mem_append_right _ (List.mem_of_getElem? (i := 590) (by decide +kernel))) rfl
theorem se_X10_X10_isBreached_X10_isBreached : (.selects RX10 yX10_isBreached yX10_isBreached : Cond) ∈ ALLW := in_all (List.mem_append_right _ (List.mem_of_getElem? (i := 591) (by decide +kernel))) rfl
theorem cd_X10_isBreached : (.code yX10_isBreached cX10_isBreached 2 (some (.boolean)) : Cond) ∈ ALLW := in_all (List.mem_append_right _ (List.mem_of_getElem? (i := 592) (by decide +kernel))) rfl
theorem ml_X2_118 : (.methodLink RX2 118 yX9_runsIn : Cond) ∈ ALLW := in_all (List.mem_append_right _ (List.mem_of_getElem? (i := 593) (by decide +kernel))) rfl
theorem ml_X2_129 : (.methodLink RX2 129 yX6_due : Cond) ∈ ALLW := in_all (List.mem_append_right _ (List.mem_of_getElem? (i := 594) (by decide +kernel))) rfl
theorem im_X6_due : (.instanceMethod yX6_due : Cond) ∈ ALLW := in_all (List.mem_append_right _ (List.mem_of_getElem? (i := 595) (by decide +kernel))) rfl
theorem se_X6_X6_due_X6_due : (.selects RX6 yX6_due yX6_due : Cond) ∈ ALLW := in_all (List.mem_append_right _ (List.mem_of_getElem? (i := 596) (by decide +kernel))) rfl
theorem sm_X6_X6_due : (.sameMethod "TideTreaty$Plain" "TideTreaty$Plain" "due" "(II)I" : Cond) ∈ ALLW := in_all (List.mem_append_right _ (List.mem_of_getElem? (i := 597) (by decide +kernel))) rfl
theorem se_X0_X6_due_X0_due : (.selects RX0 yX6_due yX0_due : Cond) ∈ ALLW := in_all (List.mem_append_right _ (List.mem_of_getElem? (i := 598) (by decide +kernel))) rfl
theorem im_X0_due : (.instanceMethod yX0_due : Cond) ∈ ALLW := in_all (List.mem_append_right _ (List.mem_of_getElem? (i := 599) (by decide +kernel))) rfl
theorem cd_X0_due : (.code yX0_due cX0_due 3 (some (.int)) : Cond) ∈ ALLW := in_all (List.mem_append_right _ (List.mem_of_getElem? (i := 600) (by decide +kernel))) rfl
theorem se_X1_X6_due_X6_due : (.selects RX1 yX6_due yX6_due : Cond) ∈ ALLW := in_all (List.mem_append_right _ (List.mem_of_getElem? (i := 601) (by decide +kernel))) rfl
theorem se_X3_X6_due_X0_due : (.selects RX3 yX6_due yX0_due : Cond) ∈ ALLW := in_all (List.mem_append_right _ (List.mem_of_getElem? (i := 602) (by decide +kernel))) rfl
theorem se_X4_X6_due_X6_due : (.selects RX4 yX6_due yX6_due : Cond) ∈ ALLW := in_all (List.mem_append_right _ (List.mem_of_getElem? (i := 603) (by decide +kernel))) rfl
theorem se_X5_X6_due_X6_due : (.selects RX5 yX6_due yX6_due : Cond) ∈ ALLW := in_all (List.mem_append_right _ (List.mem_of_getElem? (i := 604) (by decide +kernel))) rfl
theorem cd_X6_due : (.code yX6_due cX6_due 3 (some (.int)) : Cond) ∈ ALLW := in_all (List.mem_append_right _ (List.mem_of_getElem? (i := 605) (by decide +kernel))) rfl
theorem ml_X2_143 : (.methodLink RX2 143 yX2_guards : Cond) ∈ ALLW := in_all (List.mem_append_right _ (List.mem_of_getElem? (i := 606) (by decide +kernel))) rfl
theorem im_X2_guards : (.instanceMethod yX2_guards : Cond) ∈ ALLW := in_all (List.mem_append_right _ (List.mem_of_getElem? (i := 607) (by decide +kernel))) rfl
theorem se_X2_X2_guards_X2_guards : (.selects RX2 yX2_guards yX2_guards : Cond) ∈ ALLW := in_all (List.mem_append_right _ (List.mem_of_getElem? (i := 608) (by decide +kernel))) rfl
theorem cd_X2_guards : (.code yX2_guards cX2_guards 7 (some (.int)) : Cond) ∈ ALLW := in_all (List.mem_append_right _ (List.mem_of_getElem? (i := 609) (by decide +kernel))) rfl
theorem ml_X2_121 : (.methodLink RX2 121 yX6_holds : Cond) ∈ ALLW := in_all (List.mem_append_right _ (List.mem_of_getElem? (i := 610) (by decide +kernel))) rfl
theorem im_X6_holds : (.instanceMethod yX6_holds : Cond) ∈ ALLW := in_all (List.mem_append_right _ (List.mem_of_getElem? (i := 611) (by decide +kernel))) rfl
theorem se_X6_X6_holds_X6_holds : (.selects RX6 yX6_holds yX6_holds : Cond) ∈ ALLW := in_all (List.mem_append_right _ (List.mem_of_getElem? (i := 612) (by decide +kernel))) rfl
theorem sm_X6_X6_holds : (.sameMethod "TideTreaty$Plain" "TideTreaty$Plain" "holds" "(Z)I" : Cond) ∈ ALLW := in_all (List.mem_append_right _ (List.mem_of_getElem? (i := 613) (by decide +kernel))) rfl
theorem se_X0_X6_holds_X6_holds : (.selects RX0 yX6_holds yX6_holds : Cond) ∈ ALLW := in_all (List.mem_append_right _ (List.mem_of_getElem? (i := 614) (by decide +kernel))) rfl
theorem se_X1_X6_holds_X1_holds : (.selects RX1 yX6_holds yX1_holds : Cond) ∈ ALLW := in_all (List.mem_append_right _ (List.mem_of_getElem? (i := 615) (by decide +kernel))) rfl
theorem im_X1_holds : (.instanceMethod yX1_holds : Cond) ∈ ALLW := in_all (List.mem_append_right _ (List.mem_of_getElem? (i := 616) (by decide +kernel))) rfl
theorem cd_X1_holds : (.code yX1_holds cX1_holds 2 (some (.int)) : Cond) ∈ ALLW := in_all (List.mem_append_right _ (List.mem_of_getElem? (i := 617) (by decide +kernel))) rfl
theorem ml_X1_7 : (.methodLink RX1 7 yX6_holds : Cond) ∈ ALLW := in_all (List.mem_append_right _ (List.mem_of_getElem? (i := 618) (by decide +kernel))) rfl
theorem se_X3_X6_holds_X3_holds : (.selects RX3 yX6_holds yX3_holds : Cond) ∈ ALLW := in_all (List.mem_append_right _ (List.mem_of_getElem? (i := 619) (by decide +kernel))) rfl
theorem im_X3_holds : (.instanceMethod yX3_holds : Cond) ∈ ALLW := in_all (List.mem_append_right _ (List.mem_of_getElem? (i := 620) (by decide +kernel))) rfl
theorem cd_X3_holds : (.code yX3_holds cX3_holds 2 (some (.int)) : Cond) ∈ ALLW := in_all (List.mem_append_right _ (List.mem_of_getElem? (i := 621) (by decide +kernel))) rfl
theorem ml_X3_7 : (.methodLink RX3 7 ⟨"TideTreaty$Arrears", "holds", "(Z)I"⟩ : Cond) ∈ ALLW := in_all (List.mem_append_right _ (List.mem_of_getElem? (i := 622) (by decide +kernel))) rfl
theorem sm_X0_X6_holds : (.sameMethod "TideTreaty$Arrears" "TideTreaty$Plain" "holds" "(Z)I" : Cond) ∈ ALLW := in_all (List.mem_append_right _ (List.mem_of_getElem? (i := 623) (by decide +kernel))) rfl
theorem se_X4_X6_holds_X5_holds : (.selects RX4 yX6_holds yX5_holds : Cond) ∈ ALLW := in_all (List.mem_append_right _ (List.mem_of_getElem? (i := 625) (by decide +kernel))) rfl
theorem im_X5_holds : (.instanceMethod yX5_holds : Cond) ∈ ALLW := in_all (List.mem_append_right _ (List.mem_of_getElem? (i := 626) (by decide +kernel))) rfl
theorem cd_X5_holds : (.code yX5_holds cX5_holds 2 (some (.int)) : Cond) ∈ ALLW := in_all (List.mem_append_right _ (List.mem_of_getElem? (i := 627) (by decide +kernel))) rfl
theorem ml_X5_7 : (.methodLink RX5 7 yX6_holds : Cond) ∈ ALLW := in_all (List.mem_append_right _ (List.mem_of_getElem? (i := 628) (by decide +kernel))) rfl
theorem se_X5_X6_holds_X5_holds : (.selects RX5 yX6_holds yX5_holds : Cond) ∈ ALLW := in_all (List.mem_append_right _ (List.mem_of_getElem? (i := 629) (by decide +kernel))) rfl
theorem cd_X6_holds : (.code yX6_holds cX6_holds 2 (some (.int)) : Cond) ∈ ALLW := in_all (List.mem_append_right _ (List.mem_of_getElem? (i := 630) (by decide +kernel))) rfl
theorem ml_X2_125 : (.methodLink RX2 125 yX9_cellBits : Cond) ∈ ALLW := in_all (List.mem_append_right _ (List.mem_of_getElem? (i := 631) (by decide +kernel))) rfl
theorem im_X9_cellBits : (.instanceMethod yX9_cellBits : Cond) ∈ ALLW := in_all (List.mem_append_right _ (List.mem_of_getElem? (i := 632) (by decide +kernel))) rfl
theorem se_X9_X9_cellBits_X9_cellBits : (.selects RX9 yX9_cellBits yX9_cellBits : Cond) ∈ ALLW := in_all (List.mem_append_right _ (List.mem_of_getElem? (i := 633) (by decide +kernel))) rfl
theorem cd_X9_cellBits : (.code yX9_cellBits cX9_cellBits 1 (some (.int)) : Cond) ∈ ALLW := in_all (List.mem_append_right _ (List.mem_of_getElem? (i := 634) (by decide +kernel))) rfl
theorem ml_X2_150 : (.methodLink RX2 150 yX2_water : Cond) ∈ ALLW := in_all (List.mem_append_right _ (List.mem_of_getElem? (i := 635) (by decide +kernel))) rfl
theorem im_X2_water : (.instanceMethod yX2_water : Cond) ∈ ALLW := in_all (List.mem_append_right _ (List.mem_of_getElem? (i := 636) (by decide +kernel))) rfl
theorem se_X2_X2_water_X2_water : (.selects RX2 yX2_water yX2_water : Cond) ∈ ALLW := in_all (List.mem_append_right _ (List.mem_of_getElem? (i := 637) (by decide +kernel))) rfl
theorem cd_X2_water : (.code yX2_water cX2_water 9 (some (.int)) : Cond) ∈ ALLW := in_all (List.mem_append_right _ (List.mem_of_getElem? (i := 638) (by decide +kernel))) rfl
theorem ml_X2_154 : (.methodLink RX2 154 yX10_flood : Cond) ∈ ALLW := in_all (List.mem_append_right _ (List.mem_of_getElem? (i := 639) (by decide +kernel))) rfl
theorem im_X10_flood : (.instanceMethod yX10_flood : Cond) ∈ ALLW := in_all (List.mem_append_right _ (List.mem_of_getElem? (i := 640) (by decide +kernel))) rfl
theorem se_X10_X10_flood_X10_flood : (.selects RX10 yX10_flood yX10_flood : Cond) ∈ ALLW := in_all (List.mem_append_right _ (List.mem_of_getElem? (i := 641) (by decide +kernel))) rfl
theorem cd_X10_flood : (.code yX10_flood cX10_flood 2 none : Cond) ∈ ALLW := in_all (List.mem_append_right _ (List.mem_of_getElem? (i := 642) (by decide +kernel))) rfl
theorem ml_X2_158 : (.methodLink RX2 158 yX10_isLost : Cond) ∈ ALLW := in_all (List.mem_append_right _ (List.mem_of_getElem? (i := 643) (by decide +kernel))) rfl
theorem im_X10_isLost : (.instanceMethod yX10_isLost : Cond) ∈ ALLW := in_all (List.mem_append_right _ (List.mem_of_getElem? (i := 644) (by decide +kernel))) rfl
theorem se_X10_X10_isLost_X10_isLost : (.selects RX10 yX10_isLost yX10_isLost : Cond) ∈ ALLW := in_all (List.mem_append_right _ (List.mem_of_getElem? (i := 645) (by decide +kernel))) rfl
theorem cd_X10_isLost : (.code yX10_isLost cX10_isLost 2 (some (.boolean)) : Cond) ∈ ALLW := in_all (List.mem_append_right _ (List.mem_of_getElem? (i := 646) (by decide +kernel))) rfl
theorem ml_X2_161 : (.methodLink RX2 161 yJ9_min_7cf53 : Cond) ∈ ALLW := in_all (List.mem_append_right _ (List.mem_of_getElem? (i := 647) (by decide +kernel))) rfl
theorem st_J9_min_7cf53 : (.static yJ9_min_7cf53 : Cond) ∈ ALLW := in_all (List.mem_append_right _ (List.mem_of_getElem? (i := 648) (by decide +kernel))) rfl
theorem cd_J9_min_7cf53 : (.code yJ9_min_7cf53 cJ9_min_7cf53 2 (some (.int)) : Cond) ∈ ALLW := in_all (List.mem_append_right _ (List.mem_of_getElem? (i := 649) (by decide +kernel))) rfl
theorem ml_L_66 : (.methodLink RL 66 yX11_undo : Cond) ∈ ALLW := in_all (List.mem_append_right _ (List.mem_of_getElem? (i := 650) (by decide +kernel))) rfl
theorem im_X11_undo : (.instanceMethod yX11_undo : Cond) ∈ ALLW := in_all (List.mem_append_right _ (List.mem_of_getElem? (i := 651) (by decide +kernel))) rfl
theorem se_X11_X11_undo_X11_undo : (.selects RX11 yX11_undo yX11_undo : Cond) ∈ ALLW := in_all (List.mem_append_right _ (List.mem_of_getElem? (i := 652) (by decide +kernel))) rfl
theorem cd_X11_undo : (.code yX11_undo cX11_undo 1 (some (.int)) : Cond) ∈ ALLW := in_all (List.mem_append_right _ (List.mem_of_getElem? (i := 653) (by decide +kernel))) rfl
theorem ml_X11_155 : (.methodLink RX11 155 yX8_stepBack : Cond) ∈ ALLW := in_all (List.mem_append_right _ (List.mem_of_getElem? (i := 654) (by decide +kernel))) rfl
theorem im_X8_stepBack : (.instanceMethod yX8_stepBack : Cond) ∈ ALLW := in_all (List.mem_append_right _ (List.mem_of_getElem? (i := 655) (by decide +kernel))) rfl
theorem se_X8_X8_stepBack_X8_stepBack : (.selects RX8 yX8_stepBack yX8_stepBack : Cond) ∈ ALLW := in_all (List.mem_append_right _ (List.mem_of_getElem? (i := 656) (by decide +kernel))) rfl
theorem cd_X8_stepBack : (.code yX8_stepBack cX8_stepBack 1 (some (.boolean)) : Cond) ∈ ALLW := in_all (List.mem_append_right _ (List.mem_of_getElem? (i := 657) (by decide +kernel))) rfl
theorem ml_L_70 : (.methodLink RL 70 yX11_of : Cond) ∈ ALLW := in_all (List.mem_append_right _ (List.mem_of_getElem? (i := 658) (by decide +kernel))) rfl
theorem im_X11_of : (.instanceMethod yX11_of : Cond) ∈ ALLW := in_all (List.mem_append_right _ (List.mem_of_getElem? (i := 659) (by decide +kernel))) rfl
theorem se_X11_X11_of_X11_of : (.selects RX11 yX11_of yX11_of : Cond) ∈ ALLW := in_all (List.mem_append_right _ (List.mem_of_getElem? (i := 660) (by decide +kernel))) rfl
theorem cd_X11_of : (.code yX11_of cX11_of 3 (some (.int)) : Cond) ∈ ALLW := in_all (List.mem_append_right _ (List.mem_of_getElem? (i := 661) (by decide +kernel))) rfl
theorem ml_X11_159 : (.methodLink RX11 159 yX11_isCell : Cond) ∈ ALLW := in_all (List.mem_append_right _ (List.mem_of_getElem? (i := 662) (by decide +kernel))) rfl
theorem im_X11_isCell : (.instanceMethod yX11_isCell : Cond) ∈ ALLW := in_all (List.mem_append_right _ (List.mem_of_getElem? (i := 664) (by decide +kernel))) rfl
theorem cd_X11_isCell : (.code yX11_isCell cX11_isCell 2 (some (.boolean)) : Cond) ∈ ALLW := in_all (List.mem_append_right _ (List.mem_of_getElem? (i := 665) (by decide +kernel))) rfl
theorem ml_X11_177 : (.methodLink RX11 177 yX10_isLost : Cond) ∈ ALLW := in_all (List.mem_append_right _ (List.mem_of_getElem? (i := 666) (by decide +kernel))) rfl
theorem ml_L_74 : (.methodLink RL 74 yX11_about : Cond) ∈ ALLW := in_all (List.mem_append_right _ (List.mem_of_getElem? (i := 667) (by decide +kernel))) rfl
theorem im_X11_about : (.instanceMethod yX11_about : Cond) ∈ ALLW := in_all (List.mem_append_right _ (List.mem_of_getElem? (i := 668) (by decide +kernel))) rfl
theorem se_X11_X11_about_X11_about : (.selects RX11 yX11_about yX11_about : Cond) ∈ ALLW := in_all (List.mem_append_right _ (List.mem_of_getElem? (i := 669) (by decide +kernel))) rfl
theorem cd_X11_about : (.code yX11_about cX11_about 4 (some (.int)) : Cond) ∈ ALLW := in_all (List.mem_append_right _ (List.mem_of_getElem? (i := 670) (by decide +kernel))) rfl
theorem ml_X11_190 : (.methodLink RX11 190 yX2_isSpring : Cond) ∈ ALLW := in_all (List.mem_append_right _ (List.mem_of_getElem? (i := 671) (by decide +kernel))) rfl
theorem ml_X11_193 : (.methodLink RX11 193 yX6_holds : Cond) ∈ ALLW := in_all (List.mem_append_right _ (List.mem_of_getElem? (i := 672) (by decide +kernel))) rfl
theorem ml_X11_197 : (.methodLink RX11 197 yX10_isBreached : Cond) ∈ ALLW := in_all (List.mem_append_right _ (List.mem_of_getElem? (i := 673) (by decide +kernel))) rfl
theorem ml_L_78 : (.methodLink RL 78 yX11_storm : Cond) ∈ ALLW := in_all (List.mem_append_right _ (List.mem_of_getElem? (i := 674) (by decide +kernel))) rfl
theorem im_X11_storm : (.instanceMethod yX11_storm : Cond) ∈ ALLW := in_all (List.mem_append_right _ (List.mem_of_getElem? (i := 675) (by decide +kernel))) rfl
theorem se_X11_X11_storm_X11_storm : (.selects RX11 yX11_storm yX11_storm : Cond) ∈ ALLW := in_all (List.mem_append_right _ (List.mem_of_getElem? (i := 676) (by decide +kernel))) rfl
theorem cd_X11_storm : (.code yX11_storm cX11_storm 2 (some (.int)) : Cond) ∈ ALLW := in_all (List.mem_append_right _ (List.mem_of_getElem? (i := 677) (by decide +kernel))) rfl
theorem ml_L_82 : (.methodLink RL 82 yX11_guarded : Cond) ∈ ALLW := in_all (List.mem_append_right _ (List.mem_of_getElem? (i := 678) (by decide +kernel))) rfl
theorem im_X11_guarded : (.instanceMethod yX11_guarded : Cond) ∈ ALLW := in_all (List.mem_append_right _ (List.mem_of_getElem? (i := 679) (by decide +kernel))) rfl
theorem se_X11_X11_guarded_X11_guarded : (.selects RX11 yX11_guarded yX11_guarded : Cond) ∈ ALLW := in_all (List.mem_append_right _ (List.mem_of_getElem? (i := 680) (by decide +kernel))) rfl
theorem cd_X11_guarded : (.code yX11_guarded cX11_guarded 1 (some (.int)) : Cond) ∈ ALLW := in_all (List.mem_append_right _ (List.mem_of_getElem? (i := 681) (by decide +kernel))) rfl
theorem ml_X11_200 : (.methodLink RX11 200 yX2_guards : Cond) ∈ ALLW := in_all (List.mem_append_right _ (List.mem_of_getElem? (i := 682) (by decide +kernel))) rfl
theorem ml_L_86 : (.methodLink RL 86 yX11_wet : Cond) ∈ ALLW := in_all (List.mem_append_right _ (List.mem_of_getElem? (i := 683) (by decide +kernel))) rfl
theorem im_X11_wet : (.instanceMethod yX11_wet : Cond) ∈ ALLW := in_all (List.mem_append_right _ (List.mem_of_getElem? (i := 684) (by decide +kernel))) rfl
theorem se_X11_X11_wet_X11_wet : (.selects RX11 yX11_wet yX11_wet : Cond) ∈ ALLW := in_all (List.mem_append_right _ (List.mem_of_getElem? (i := 685) (by decide +kernel))) rfl
theorem cd_X11_wet : (.code yX11_wet cX11_wet 1 (some (.int)) : Cond) ∈ ALLW := in_all (List.mem_append_right _ (List.mem_of_getElem? (i := 686) (by decide +kernel))) rfl
theorem ml_X11_203 : (.methodLink RX11 203 yX11_wetWithout : Cond) ∈ ALLW := in_all (List.mem_append_right _ (List.mem_of_getElem? (i := 687) (by decide +kernel))) rfl
theorem im_X11_wetWithout : (.instanceMethod yX11_wetWithout : Cond) ∈ ALLW := in_all (List.mem_append_right _ (List.mem_of_getElem? (i := 689) (by decide +kernel))) rfl
theorem cd_X11_wetWithout : (.code yX11_wetWithout cX11_wetWithout 3 (some (.int)) : Cond) ∈ ALLW := in_all (List.mem_append_right _ (List.mem_of_getElem? (i := 690) (by decide +kernel))) rfl
theorem ml_X11_338 : (.methodLink RX11 338 yX2_water : Cond) ∈ ALLW := in_all (List.mem_append_right _ (List.mem_of_getElem? (i := 691) (by decide +kernel))) rfl
theorem ml_L_90 : (.methodLink RL 90 yX11_then : Cond) ∈ ALLW := in_all (List.mem_append_right _ (List.mem_of_getElem? (i := 692) (by decide +kernel))) rfl
theorem im_X11_then : (.instanceMethod yX11_then : Cond) ∈ ALLW := in_all (List.mem_append_right _ (List.mem_of_getElem? (i := 693) (by decide +kernel))) rfl
theorem se_X11_X11_then_X11_then : (.selects RX11 yX11_then yX11_then : Cond) ∈ ALLW := in_all (List.mem_append_right _ (List.mem_of_getElem? (i := 694) (by decide +kernel))) rfl
theorem cd_X11_then : (.code yX11_then cX11_then 5 (some (.int)) : Cond) ∈ ALLW := in_all (List.mem_append_right _ (List.mem_of_getElem? (i := 695) (by decide +kernel))) rfl
theorem ml_X11_206 : (.methodLink RX11 206 yX11_runAhead : Cond) ∈ ALLW := in_all (List.mem_append_right _ (List.mem_of_getElem? (i := 696) (by decide +kernel))) rfl
theorem im_X11_runAhead : (.instanceMethod yX11_runAhead : Cond) ∈ ALLW := in_all (List.mem_append_right _ (List.mem_of_getElem? (i := 698) (by decide +kernel))) rfl
theorem cd_X11_runAhead : (.code yX11_runAhead cX11_runAhead 2 (some (.int)) : Cond) ∈ ALLW := in_all (List.mem_append_right _ (List.mem_of_getElem? (i := 699) (by decide +kernel))) rfl
theorem ml_X11_210 : (.methodLink RX11 210 yX11_outcome : Cond) ∈ ALLW := in_all (List.mem_append_right _ (List.mem_of_getElem? (i := 700) (by decide +kernel))) rfl
theorem im_X11_outcome : (.instanceMethod yX11_outcome : Cond) ∈ ALLW := in_all (List.mem_append_right _ (List.mem_of_getElem? (i := 702) (by decide +kernel))) rfl
theorem cd_X11_outcome : (.code yX11_outcome cX11_outcome 3 (some (.int)) : Cond) ∈ ALLW := in_all (List.mem_append_right _ (List.mem_of_getElem? (i := 703) (by decide +kernel))) rfl
theorem ml_X11_213 : (.methodLink RX11 213 yX10_lost : Cond) ∈ ALLW := in_all (List.mem_append_right _ (List.mem_of_getElem? (i := 704) (by decide +kernel))) rfl
theorem im_X10_lost : (.instanceMethod yX10_lost : Cond) ∈ ALLW := in_all (List.mem_append_right _ (List.mem_of_getElem? (i := 705) (by decide +kernel))) rfl
theorem se_X10_X10_lost_X10_lost : (.selects RX10 yX10_lost yX10_lost : Cond) ∈ ALLW := in_all (List.mem_append_right _ (List.mem_of_getElem? (i := 706) (by decide +kernel))) rfl
theorem cd_X10_lost : (.code yX10_lost cX10_lost 3 (some (.int)) : Cond) ∈ ALLW := in_all (List.mem_append_right _ (List.mem_of_getElem? (i := 707) (by decide +kernel))) rfl
theorem ml_X10_34 : (.methodLink RX10 34 yX10_isLost : Cond) ∈ ALLW := in_all (List.mem_append_right _ (List.mem_of_getElem? (i := 708) (by decide +kernel))) rfl
theorem ml_X11_342 : (.methodLink RX11 342 yX2_worthOfAll : Cond) ∈ ALLW := in_all (List.mem_append_right _ (List.mem_of_getElem? (i := 709) (by decide +kernel))) rfl
theorem im_X2_worthOfAll : (.instanceMethod yX2_worthOfAll : Cond) ∈ ALLW := in_all (List.mem_append_right _ (List.mem_of_getElem? (i := 710) (by decide +kernel))) rfl
theorem se_X2_X2_worthOfAll_X2_worthOfAll : (.selects RX2 yX2_worthOfAll yX2_worthOfAll : Cond) ∈ ALLW := in_all (List.mem_append_right _ (List.mem_of_getElem? (i := 711) (by decide +kernel))) rfl
theorem cd_X2_worthOfAll : (.code yX2_worthOfAll cX2_worthOfAll 4 (some (.int)) : Cond) ∈ ALLW := in_all (List.mem_append_right _ (List.mem_of_getElem? (i := 712) (by decide +kernel))) rfl
theorem ml_L_94 : (.methodLink RL 94 yX11_firstLost : Cond) ∈ ALLW := in_all (List.mem_append_right _ (List.mem_of_getElem? (i := 713) (by decide +kernel))) rfl
theorem im_X11_firstLost : (.instanceMethod yX11_firstLost : Cond) ∈ ALLW := in_all (List.mem_append_right _ (List.mem_of_getElem? (i := 714) (by decide +kernel))) rfl
theorem se_X11_X11_firstLost_X11_firstLost : (.selects RX11 yX11_firstLost yX11_firstLost : Cond) ∈ ALLW := in_all (List.mem_append_right _ (List.mem_of_getElem? (i := 715) (by decide +kernel))) rfl
theorem cd_X11_firstLost : (.code yX11_firstLost cX11_firstLost 3 (some (.int)) : Cond) ∈ ALLW := in_all (List.mem_append_right _ (List.mem_of_getElem? (i := 716) (by decide +kernel))) rfl
theorem ml_L_98 : (.methodLink RL 98 yX11_offer : Cond) ∈ ALLW := in_all (List.mem_append_right _ (List.mem_of_getElem? (i := 717) (by decide +kernel))) rfl
theorem im_X11_offer : (.instanceMethod yX11_offer : Cond) ∈ ALLW := in_all (List.mem_append_right _ (List.mem_of_getElem? (i := 718) (by decide +kernel))) rfl
theorem se_X11_X11_offer_X11_offer : (.selects RX11 yX11_offer yX11_offer : Cond) ∈ ALLW := in_all (List.mem_append_right _ (List.mem_of_getElem? (i := 719) (by decide +kernel))) rfl
theorem cd_X11_offer : (.code yX11_offer cX11_offer 6 (some (.int)) : Cond) ∈ ALLW := in_all (List.mem_append_right _ (List.mem_of_getElem? (i := 720) (by decide +kernel))) rfl
theorem ml_X11_219 : (.methodLink RX11 219 yX11_isKept : Cond) ∈ ALLW := in_all (List.mem_append_right _ (List.mem_of_getElem? (i := 721) (by decide +kernel))) rfl
theorem im_X11_isKept : (.instanceMethod yX11_isKept : Cond) ∈ ALLW := in_all (List.mem_append_right _ (List.mem_of_getElem? (i := 723) (by decide +kernel))) rfl
theorem cd_X11_isKept : (.code yX11_isKept cX11_isKept 8 (some (.boolean)) : Cond) ∈ ALLW := in_all (List.mem_append_right _ (List.mem_of_getElem? (i := 724) (by decide +kernel))) rfl
theorem ml_X11_348 : (.methodLink RX11 348 yX2_addTreaty : Cond) ∈ ALLW := in_all (List.mem_append_right _ (List.mem_of_getElem? (i := 725) (by decide +kernel))) rfl
theorem ml_X11_223 : (.methodLink RX11 223 yX11_floodings : Cond) ∈ ALLW := in_all (List.mem_append_right _ (List.mem_of_getElem? (i := 726) (by decide +kernel))) rfl
theorem im_X11_floodings : (.instanceMethod yX11_floodings : Cond) ∈ ALLW := in_all (List.mem_append_right _ (List.mem_of_getElem? (i := 728) (by decide +kernel))) rfl
theorem cd_X11_floodings : (.code yX11_floodings cX11_floodings 5 (some (.int)) : Cond) ∈ ALLW := in_all (List.mem_append_right _ (List.mem_of_getElem? (i := 729) (by decide +kernel))) rfl
theorem ml_X11_262 : (.methodLink RX11 262 yJ6_bitCount_0f7a4 : Cond) ∈ ALLW := in_all (List.mem_append_right _ (List.mem_of_getElem? (i := 730) (by decide +kernel))) rfl
theorem st_J6_bitCount_0f7a4 : (.static yJ6_bitCount_0f7a4 : Cond) ∈ ALLW := in_all (List.mem_append_right _ (List.mem_of_getElem? (i := 731) (by decide +kernel))) rfl
theorem cd_J6_bitCount_0f7a4 : (.code yJ6_bitCount_0f7a4 cJ6_bitCount_0f7a4 1 (some (.int)) : Cond) ∈ ALLW := in_all (List.mem_append_right _ (List.mem_of_getElem? (i := 732) (by decide +kernel))) rfl
theorem kc_J6_265 : (.constant RJ6 265 (1431655765) : Cond) ∈ ALLW := in_all (List.mem_append_right _ (List.mem_of_getElem? (i := 733) (by decide +kernel))) rfl
theorem kc_J6_266 : (.constant RJ6 266 (858993459) : Cond) ∈ ALLW := in_all (List.mem_append_right _ (List.mem_of_getElem? (i := 734) (by decide +kernel))) rfl
theorem kc_J6_267 : (.constant RJ6 267 (252645135) : Cond) ∈ ALLW := in_all (List.mem_append_right _ (List.mem_of_getElem? (i := 735) (by decide +kernel))) rfl
theorem ml_L_102 : (.methodLink RL 102 yX11_cheapest : Cond) ∈ ALLW := in_all (List.mem_append_right _ (List.mem_of_getElem? (i := 736) (by decide +kernel))) rfl
theorem im_X11_cheapest : (.instanceMethod yX11_cheapest : Cond) ∈ ALLW := in_all (List.mem_append_right _ (List.mem_of_getElem? (i := 737) (by decide +kernel))) rfl
theorem se_X11_X11_cheapest_X11_cheapest : (.selects RX11 yX11_cheapest yX11_cheapest : Cond) ∈ ALLW := in_all (List.mem_append_right _ (List.mem_of_getElem? (i := 738) (by decide +kernel))) rfl
theorem cd_X11_cheapest : (.code yX11_cheapest cX11_cheapest 6 (some (.int)) : Cond) ∈ ALLW := in_all (List.mem_append_right _ (List.mem_of_getElem? (i := 739) (by decide +kernel))) rfl
theorem ml_X11_227 : (.methodLink RX11 227 yX11_isCells : Cond) ∈ ALLW := in_all (List.mem_append_right _ (List.mem_of_getElem? (i := 740) (by decide +kernel))) rfl
theorem im_X11_isCells : (.instanceMethod yX11_isCells : Cond) ∈ ALLW := in_all (List.mem_append_right _ (List.mem_of_getElem? (i := 742) (by decide +kernel))) rfl
theorem cd_X11_isCells : (.code yX11_isCells cX11_isCells 2 (some (.boolean)) : Cond) ∈ ALLW := in_all (List.mem_append_right _ (List.mem_of_getElem? (i := 743) (by decide +kernel))) rfl
theorem ml_X11_233 : (.methodLink RX11 233 yX11_staysDry : Cond) ∈ ALLW := in_all (List.mem_append_right _ (List.mem_of_getElem? (i := 744) (by decide +kernel))) rfl
theorem im_X11_staysDry : (.instanceMethod yX11_staysDry : Cond) ∈ ALLW := in_all (List.mem_append_right _ (List.mem_of_getElem? (i := 746) (by decide +kernel))) rfl
theorem cd_X11_staysDry : (.code yX11_staysDry cX11_staysDry 6 (some (.boolean)) : Cond) ∈ ALLW := in_all (List.mem_append_right _ (List.mem_of_getElem? (i := 747) (by decide +kernel))) rfl
theorem ml_L_107 : (.methodLink RL 107 yX11_clashes : Cond) ∈ ALLW := in_all (List.mem_append_right _ (List.mem_of_getElem? (i := 748) (by decide +kernel))) rfl
theorem im_X11_clashes : (.instanceMethod yX11_clashes : Cond) ∈ ALLW := in_all (List.mem_append_right _ (List.mem_of_getElem? (i := 749) (by decide +kernel))) rfl
theorem se_X11_X11_clashes_X11_clashes : (.selects RX11 yX11_clashes yX11_clashes : Cond) ∈ ALLW := in_all (List.mem_append_right _ (List.mem_of_getElem? (i := 750) (by decide +kernel))) rfl
theorem cd_X11_clashes : (.code yX11_clashes cX11_clashes 5 (some (.int)) : Cond) ∈ ALLW := in_all (List.mem_append_right _ (List.mem_of_getElem? (i := 751) (by decide +kernel))) rfl
theorem ml_X11_236 : (.methodLink RX11 236 yX11_clash : Cond) ∈ ALLW := in_all (List.mem_append_right _ (List.mem_of_getElem? (i := 752) (by decide +kernel))) rfl
theorem im_X11_clash : (.instanceMethod yX11_clash : Cond) ∈ ALLW := in_all (List.mem_append_right _ (List.mem_of_getElem? (i := 754) (by decide +kernel))) rfl
theorem cd_X11_clash : (.code yX11_clash cX11_clash 5 (some (.boolean)) : Cond) ∈ ALLW := in_all (List.mem_append_right _ (List.mem_of_getElem? (i := 755) (by decide +kernel))) rfl
theorem ml_X11_351 : (.methodLink RX11 351 yX9_cellBits : Cond) ∈ ALLW := in_all (List.mem_append_right _ (List.mem_of_getElem? (i := 756) (by decide +kernel))) rfl
theorem ml_X11_357 : (.methodLink RX11 357 yJ9_max_7cf53 : Cond) ∈ ALLW := in_all (List.mem_append_right _ (List.mem_of_getElem? (i := 757) (by decide +kernel))) rfl
theorem st_J9_max_7cf53 : (.static yJ9_max_7cf53 : Cond) ∈ ALLW := in_all (List.mem_append_right _ (List.mem_of_getElem? (i := 758) (by decide +kernel))) rfl
theorem cd_J9_max_7cf53 : (.code yJ9_max_7cf53 cJ9_max_7cf53 2 (some (.int)) : Cond) ∈ ALLW := in_all (List.mem_append_right _ (List.mem_of_getElem? (i := 759) (by decide +kernel))) rfl
theorem ml_X11_362 : (.methodLink RX11 362 yJ9_min_7cf53 : Cond) ∈ ALLW := in_all (List.mem_append_right _ (List.mem_of_getElem? (i := 760) (by decide +kernel))) rfl
theorem ml_L_111 : (.methodLink RL 111 yX11_mend : Cond) ∈ ALLW := in_all (List.mem_append_right _ (List.mem_of_getElem? (i := 761) (by decide +kernel))) rfl
theorem im_X11_mend : (.instanceMethod yX11_mend : Cond) ∈ ALLW := in_all (List.mem_append_right _ (List.mem_of_getElem? (i := 762) (by decide +kernel))) rfl
theorem se_X11_X11_mend_X11_mend : (.selects RX11 yX11_mend yX11_mend : Cond) ∈ ALLW := in_all (List.mem_append_right _ (List.mem_of_getElem? (i := 763) (by decide +kernel))) rfl
theorem cd_X11_mend : (.code yX11_mend cX11_mend 3 (some (.int)) : Cond) ∈ ALLW := in_all (List.mem_append_right _ (List.mem_of_getElem? (i := 764) (by decide +kernel))) rfl
theorem ml_X11_240 : (.methodLink RX11 240 yX11_tillBesideLesser : Cond) ∈ ALLW := in_all (List.mem_append_right _ (List.mem_of_getElem? (i := 765) (by decide +kernel))) rfl
theorem im_X11_tillBesideLesser : (.instanceMethod yX11_tillBesideLesser : Cond) ∈ ALLW := in_all (List.mem_append_right _ (List.mem_of_getElem? (i := 767) (by decide +kernel))) rfl
theorem cd_X11_tillBesideLesser : (.code yX11_tillBesideLesser cX11_tillBesideLesser 8 (some (.int)) : Cond) ∈ ALLW := in_all (List.mem_append_right _ (List.mem_of_getElem? (i := 768) (by decide +kernel))) rfl
theorem ml_L_115 : (.methodLink RL 115 yX11_letsIn : Cond) ∈ ALLW := in_all (List.mem_append_right _ (List.mem_of_getElem? (i := 769) (by decide +kernel))) rfl
theorem im_X11_letsIn : (.instanceMethod yX11_letsIn : Cond) ∈ ALLW := in_all (List.mem_append_right _ (List.mem_of_getElem? (i := 770) (by decide +kernel))) rfl
theorem se_X11_X11_letsIn_X11_letsIn : (.selects RX11 yX11_letsIn yX11_letsIn : Cond) ∈ ALLW := in_all (List.mem_append_right _ (List.mem_of_getElem? (i := 771) (by decide +kernel))) rfl
theorem cd_X11_letsIn : (.code yX11_letsIn cX11_letsIn 5 (some (.int)) : Cond) ∈ ALLW := in_all (List.mem_append_right _ (List.mem_of_getElem? (i := 772) (by decide +kernel))) rfl
theorem ml_X11_243 : (.methodLink RX11 243 yX11_isTown : Cond) ∈ ALLW := in_all (List.mem_append_right _ (List.mem_of_getElem? (i := 773) (by decide +kernel))) rfl
theorem ml_X11_246 : (.methodLink RX11 246 yX2_cellsOfTown : Cond) ∈ ALLW := in_all (List.mem_append_right _ (List.mem_of_getElem? (i := 774) (by decide +kernel))) rfl
theorem im_X2_cellsOfTown : (.instanceMethod yX2_cellsOfTown : Cond) ∈ ALLW := in_all (List.mem_append_right _ (List.mem_of_getElem? (i := 775) (by decide +kernel))) rfl
theorem se_X2_X2_cellsOfTown_X2_cellsOfTown : (.selects RX2 yX2_cellsOfTown yX2_cellsOfTown : Cond) ∈ ALLW := in_all (List.mem_append_right _ (List.mem_of_getElem? (i := 776) (by decide +kernel))) rfl
theorem cd_X2_cellsOfTown : (.code yX2_cellsOfTown cX2_cellsOfTown 4 (some (.int)) : Cond) ∈ ALLW := in_all (List.mem_append_right _ (List.mem_of_getElem? (i := 777) (by decide +kernel))) rfl
theorem ml_X11_249 : (.methodLink RX11 249 yX8_worthOf : Cond) ∈ ALLW := in_all (List.mem_append_right _ (List.mem_of_getElem? (i := 778) (by decide +kernel))) rfl
theorem im_X8_worthOf : (.instanceMethod yX8_worthOf : Cond) ∈ ALLW := in_all (List.mem_append_right _ (List.mem_of_getElem? (i := 779) (by decide +kernel))) rfl
theorem se_X8_X8_worthOf_X8_worthOf : (.selects RX8 yX8_worthOf yX8_worthOf : Cond) ∈ ALLW := in_all (List.mem_append_right _ (List.mem_of_getElem? (i := 780) (by decide +kernel))) rfl
theorem cd_X8_worthOf : (.code yX8_worthOf cX8_worthOf 2 (some (.int)) : Cond) ∈ ALLW := in_all (List.mem_append_right _ (List.mem_of_getElem? (i := 781) (by decide +kernel))) rfl
theorem ml_X8_95 : (.methodLink RX8 95 yX10_lost : Cond) ∈ ALLW := in_all (List.mem_append_right _ (List.mem_of_getElem? (i := 782) (by decide +kernel))) rfl
theorem ml_X8_99 : (.methodLink RX8 99 yX2_worthOfAll : Cond) ∈ ALLW := in_all (List.mem_append_right _ (List.mem_of_getElem? (i := 783) (by decide +kernel))) rfl
theorem ml_L_119 : (.methodLink RL 119 yX11_rests : Cond) ∈ ALLW := in_all (List.mem_append_right _ (List.mem_of_getElem? (i := 784) (by decide +kernel))) rfl
theorem im_X11_rests : (.instanceMethod yX11_rests : Cond) ∈ ALLW := in_all (List.mem_append_right _ (List.mem_of_getElem? (i := 785) (by decide +kernel))) rfl
theorem se_X11_X11_rests_X11_rests : (.selects RX11 yX11_rests yX11_rests : Cond) ∈ ALLW := in_all (List.mem_append_right _ (List.mem_of_getElem? (i := 786) (by decide +kernel))) rfl
theorem cd_X11_rests : (.code yX11_rests cX11_rests 5 (some (.int)) : Cond) ∈ ALLW := in_all (List.mem_append_right _ (List.mem_of_getElem? (i := 787) (by decide +kernel))) rfl
theorem ml_X11_252 : (.methodLink RX11 252 yX11_isRest : Cond) ∈ ALLW := in_all (List.mem_append_right _ (List.mem_of_getElem? (i := 788) (by decide +kernel))) rfl
theorem im_X11_isRest : (.instanceMethod yX11_isRest : Cond) ∈ ALLW := in_all (List.mem_append_right _ (List.mem_of_getElem? (i := 790) (by decide +kernel))) rfl
theorem cd_X11_isRest : (.code yX11_isRest cX11_isRest 3 (some (.boolean)) : Cond) ∈ ALLW := in_all (List.mem_append_right _ (List.mem_of_getElem? (i := 791) (by decide +kernel))) rfl
theorem ml_X11_365 : (.methodLink RX11 365 yX11_lossOf : Cond) ∈ ALLW := in_all (List.mem_append_right _ (List.mem_of_getElem? (i := 792) (by decide +kernel))) rfl
theorem im_X11_lossOf : (.instanceMethod yX11_lossOf : Cond) ∈ ALLW := in_all (List.mem_append_right _ (List.mem_of_getElem? (i := 794) (by decide +kernel))) rfl
theorem cd_X11_lossOf : (.code yX11_lossOf cX11_lossOf 5 (some (.int)) : Cond) ∈ ALLW := in_all (List.mem_append_right _ (List.mem_of_getElem? (i := 795) (by decide +kernel))) rfl
theorem ml_X11_368 : (.methodLink RX11 368 yX10_feetOf : Cond) ∈ ALLW := in_all (List.mem_append_right _ (List.mem_of_getElem? (i := 796) (by decide +kernel))) rfl
theorem im_X10_feetOf : (.instanceMethod yX10_feetOf : Cond) ∈ ALLW := in_all (List.mem_append_right _ (List.mem_of_getElem? (i := 797) (by decide +kernel))) rfl
theorem se_X10_X10_feetOf_X10_feetOf : (.selects RX10 yX10_feetOf yX10_feetOf : Cond) ∈ ALLW := in_all (List.mem_append_right _ (List.mem_of_getElem? (i := 798) (by decide +kernel))) rfl
theorem cd_X10_feetOf : (.code yX10_feetOf cX10_feetOf 4 (some (.int)) : Cond) ∈ ALLW := in_all (List.mem_append_right _ (List.mem_of_getElem? (i := 799) (by decide +kernel))) rfl
theorem ml_L_123 : (.methodLink RL 123 yX11_tide : Cond) ∈ ALLW := in_all (List.mem_append_right _ (List.mem_of_getElem? (i := 800) (by decide +kernel))) rfl
theorem im_X11_tide : (.instanceMethod yX11_tide : Cond) ∈ ALLW := in_all (List.mem_append_right _ (List.mem_of_getElem? (i := 801) (by decide +kernel))) rfl
theorem se_X11_X11_tide_X11_tide : (.selects RX11 yX11_tide yX11_tide : Cond) ∈ ALLW := in_all (List.mem_append_right _ (List.mem_of_getElem? (i := 802) (by decide +kernel))) rfl
theorem cd_X11_tide : (.code yX11_tide cX11_tide 4 (some (.int)) : Cond) ∈ ALLW := in_all (List.mem_append_right _ (List.mem_of_getElem? (i := 803) (by decide +kernel))) rfl
theorem ml_X11_255 : (.methodLink RX11 255 yX2_addTide : Cond) ∈ ALLW := in_all (List.mem_append_right _ (List.mem_of_getElem? (i := 804) (by decide +kernel))) rfl
theorem im_X2_addTide : (.instanceMethod yX2_addTide : Cond) ∈ ALLW := in_all (List.mem_append_right _ (List.mem_of_getElem? (i := 805) (by decide +kernel))) rfl
theorem se_X2_X2_addTide_X2_addTide : (.selects RX2 yX2_addTide yX2_addTide : Cond) ∈ ALLW := in_all (List.mem_append_right _ (List.mem_of_getElem? (i := 806) (by decide +kernel))) rfl
theorem cd_X2_addTide : (.code yX2_addTide cX2_addTide 4 (some (.int)) : Cond) ∈ ALLW := in_all (List.mem_append_right _ (List.mem_of_getElem? (i := 807) (by decide +kernel))) rfl
theorem ml_L_128 : (.methodLink RL 128 yX11_learnt : Cond) ∈ ALLW := in_all (List.mem_append_right _ (List.mem_of_getElem? (i := 808) (by decide +kernel))) rfl
theorem im_X11_learnt : (.instanceMethod yX11_learnt : Cond) ∈ ALLW := in_all (List.mem_append_right _ (List.mem_of_getElem? (i := 809) (by decide +kernel))) rfl
theorem se_X11_X11_learnt_X11_learnt : (.selects RX11 yX11_learnt yX11_learnt : Cond) ∈ ALLW := in_all (List.mem_append_right _ (List.mem_of_getElem? (i := 810) (by decide +kernel))) rfl
theorem cd_X11_learnt : (.code yX11_learnt cX11_learnt 4 (some (.int)) : Cond) ∈ ALLW := in_all (List.mem_append_right _ (List.mem_of_getElem? (i := 811) (by decide +kernel))) rfl
theorem ml_X11_259 : (.methodLink RX11 259 yX11_fittingWants : Cond) ∈ ALLW := in_all (List.mem_append_right _ (List.mem_of_getElem? (i := 812) (by decide +kernel))) rfl
theorem im_X11_fittingWants : (.instanceMethod yX11_fittingWants : Cond) ∈ ALLW := in_all (List.mem_append_right _ (List.mem_of_getElem? (i := 814) (by decide +kernel))) rfl
theorem cd_X11_fittingWants : (.code yX11_fittingWants cX11_fittingWants 4 (some (.int)) : Cond) ∈ ALLW := in_all (List.mem_append_right _ (List.mem_of_getElem? (i := 815) (by decide +kernel))) rfl
theorem ml_X11_371 : (.methodLink RX11 371 yX11_wetBy : Cond) ∈ ALLW := in_all (List.mem_append_right _ (List.mem_of_getElem? (i := 816) (by decide +kernel))) rfl
theorem im_X11_wetBy : (.instanceMethod yX11_wetBy : Cond) ∈ ALLW := in_all (List.mem_append_right _ (List.mem_of_getElem? (i := 818) (by decide +kernel))) rfl
theorem cd_X11_wetBy : (.code yX11_wetBy cX11_wetBy 2 (some (.int)) : Cond) ∈ ALLW := in_all (List.mem_append_right _ (List.mem_of_getElem? (i := 819) (by decide +kernel))) rfl
theorem ml_X11_374 : (.methodLink RX11 374 yX2_tidesFit : Cond) ∈ ALLW := in_all (List.mem_append_right _ (List.mem_of_getElem? (i := 820) (by decide +kernel))) rfl
theorem im_X2_tidesFit : (.instanceMethod yX2_tidesFit : Cond) ∈ ALLW := in_all (List.mem_append_right _ (List.mem_of_getElem? (i := 821) (by decide +kernel))) rfl
theorem se_X2_X2_tidesFit_X2_tidesFit : (.selects RX2 yX2_tidesFit yX2_tidesFit : Cond) ∈ ALLW := in_all (List.mem_append_right _ (List.mem_of_getElem? (i := 822) (by decide +kernel))) rfl
theorem cd_X2_tidesFit : (.code yX2_tidesFit cX2_tidesFit 4 (some (.boolean)) : Cond) ∈ ALLW := in_all (List.mem_append_right _ (List.mem_of_getElem? (i := 823) (by decide +kernel))) rfl
theorem ml_X11_267 : (.methodLink RX11 267 yX11_nextToTell : Cond) ∈ ALLW := in_all (List.mem_append_right _ (List.mem_of_getElem? (i := 824) (by decide +kernel))) rfl
theorem im_X11_nextToTell : (.instanceMethod yX11_nextToTell : Cond) ∈ ALLW := in_all (List.mem_append_right _ (List.mem_of_getElem? (i := 826) (by decide +kernel))) rfl
theorem cd_X11_nextToTell : (.code yX11_nextToTell cX11_nextToTell 8 (some (.int)) : Cond) ∈ ALLW := in_all (List.mem_append_right _ (List.mem_of_getElem? (i := 827) (by decide +kernel))) rfl
theorem ml_X11_377 : (.methodLink RX11 377 yX11_countWetting : Cond) ∈ ALLW := in_all (List.mem_append_right _ (List.mem_of_getElem? (i := 828) (by decide +kernel))) rfl
theorem im_X11_countWetting : (.instanceMethod yX11_countWetting : Cond) ∈ ALLW := in_all (List.mem_append_right _ (List.mem_of_getElem? (i := 830) (by decide +kernel))) rfl
theorem cd_X11_countWetting : (.code yX11_countWetting cX11_countWetting 5 (some (.int)) : Cond) ∈ ALLW := in_all (List.mem_append_right _ (List.mem_of_getElem? (i := 831) (by decide +kernel))) rfl
theorem ml_L_132 : (.methodLink RL 132 yX11_shells : Cond) ∈ ALLW := in_all (List.mem_append_right _ (List.mem_of_getElem? (i := 832) (by decide +kernel))) rfl
theorem im_X11_shells : (.instanceMethod yX11_shells : Cond) ∈ ALLW := in_all (List.mem_append_right _ (List.mem_of_getElem? (i := 833) (by decide +kernel))) rfl
theorem se_X11_X11_shells_X11_shells : (.selects RX11 yX11_shells yX11_shells : Cond) ∈ ALLW := in_all (List.mem_append_right _ (List.mem_of_getElem? (i := 834) (by decide +kernel))) rfl
theorem cd_X11_shells : (.code yX11_shells cX11_shells 6 (some (.int)) : Cond) ∈ ALLW := in_all (List.mem_append_right _ (List.mem_of_getElem? (i := 835) (by decide +kernel))) rfl
theorem ml_X11_270 : (.methodLink RX11 270 yX11_lineFits : Cond) ∈ ALLW := in_all (List.mem_append_right _ (List.mem_of_getElem? (i := 836) (by decide +kernel))) rfl
theorem st_X11_lineFits : (.static yX11_lineFits : Cond) ∈ ALLW := in_all (List.mem_append_right _ (List.mem_of_getElem? (i := 837) (by decide +kernel))) rfl
theorem cd_X11_lineFits : (.code yX11_lineFits cX11_lineFits 2 (some (.boolean)) : Cond) ∈ ALLW := in_all (List.mem_append_right _ (List.mem_of_getElem? (i := 838) (by decide +kernel))) rfl
theorem ml_L_136 : (.methodLink RL 136 yX11_vote : Cond) ∈ ALLW := in_all (List.mem_append_right _ (List.mem_of_getElem? (i := 839) (by decide +kernel))) rfl
theorem im_X11_vote : (.instanceMethod yX11_vote : Cond) ∈ ALLW := in_all (List.mem_append_right _ (List.mem_of_getElem? (i := 840) (by decide +kernel))) rfl
theorem se_X11_X11_vote_X11_vote : (.selects RX11 yX11_vote yX11_vote : Cond) ∈ ALLW := in_all (List.mem_append_right _ (List.mem_of_getElem? (i := 841) (by decide +kernel))) rfl
theorem cd_X11_vote : (.code yX11_vote cX11_vote 8 (some (.int)) : Cond) ∈ ALLW := in_all (List.mem_append_right _ (List.mem_of_getElem? (i := 842) (by decide +kernel))) rfl
theorem ml_L_140 : (.methodLink RL 140 yX11_drawn : Cond) ∈ ALLW := in_all (List.mem_append_right _ (List.mem_of_getElem? (i := 843) (by decide +kernel))) rfl
theorem im_X11_drawn : (.instanceMethod yX11_drawn : Cond) ∈ ALLW := in_all (List.mem_append_right _ (List.mem_of_getElem? (i := 844) (by decide +kernel))) rfl
theorem se_X11_X11_drawn_X11_drawn : (.selects RX11 yX11_drawn yX11_drawn : Cond) ∈ ALLW := in_all (List.mem_append_right _ (List.mem_of_getElem? (i := 845) (by decide +kernel))) rfl
theorem cd_X11_drawn : (.code yX11_drawn cX11_drawn 9 (some (.int)) : Cond) ∈ ALLW := in_all (List.mem_append_right _ (List.mem_of_getElem? (i := 846) (by decide +kernel))) rfl
theorem kc_X11_273 : (.constant RX11 273 (999999) : Cond) ∈ ALLW := in_all (List.mem_append_right _ (List.mem_of_getElem? (i := 847) (by decide +kernel))) rfl
theorem kl_X11_274 : (.constantLong RX11 274 (1103515245) : Cond) ∈ ALLW := in_all (List.mem_append_right _ (List.mem_of_getElem? (i := 848) (by decide +kernel))) rfl
theorem kl_X11_276 : (.constantLong RX11 276 (12345) : Cond) ∈ ALLW := in_all (List.mem_append_right _ (List.mem_of_getElem? (i := 849) (by decide +kernel))) rfl
theorem kl_X11_278 : (.constantLong RX11 278 (2147483648) : Cond) ∈ ALLW := in_all (List.mem_append_right _ (List.mem_of_getElem? (i := 850) (by decide +kernel))) rfl
theorem kl_X11_280 : (.constantLong RX11 280 (65536) : Cond) ∈ ALLW := in_all (List.mem_append_right _ (List.mem_of_getElem? (i := 851) (by decide +kernel))) rfl
theorem kl_X11_282 : (.constantLong RX11 282 (16) : Cond) ∈ ALLW := in_all (List.mem_append_right _ (List.mem_of_getElem? (i := 852) (by decide +kernel))) rfl
theorem ml_X11_284 : (.methodLink RX11 284 yX2_springMore : Cond) ∈ ALLW := in_all (List.mem_append_right _ (List.mem_of_getElem? (i := 853) (by decide +kernel))) rfl
theorem ml_L_144 : (.methodLink RL 144 yX11_burn : Cond) ∈ ALLW := in_all (List.mem_append_right _ (List.mem_of_getElem? (i := 854) (by decide +kernel))) rfl
theorem im_X11_burn : (.instanceMethod yX11_burn : Cond) ∈ ALLW := in_all (List.mem_append_right _ (List.mem_of_getElem? (i := 855) (by decide +kernel))) rfl
theorem se_X11_X11_burn_X11_burn : (.selects RX11 yX11_burn yX11_burn : Cond) ∈ ALLW := in_all (List.mem_append_right _ (List.mem_of_getElem? (i := 856) (by decide +kernel))) rfl
theorem cd_X11_burn : (.code yX11_burn cX11_burn 2 (some (.int)) : Cond) ∈ ALLW := in_all (List.mem_append_right _ (List.mem_of_getElem? (i := 857) (by decide +kernel))) rfl
theorem ml_X11_287 : (.methodLink RX11 287 yX8_dropTreaties : Cond) ∈ ALLW := in_all (List.mem_append_right _ (List.mem_of_getElem? (i := 858) (by decide +kernel))) rfl
theorem im_X8_dropTreaties : (.instanceMethod yX8_dropTreaties : Cond) ∈ ALLW := in_all (List.mem_append_right _ (List.mem_of_getElem? (i := 859) (by decide +kernel))) rfl
theorem se_X8_X8_dropTreaties_X8_dropTreaties : (.selects RX8 yX8_dropTreaties yX8_dropTreaties : Cond) ∈ ALLW := in_all (List.mem_append_right _ (List.mem_of_getElem? (i := 860) (by decide +kernel))) rfl
theorem cd_X8_dropTreaties : (.code yX8_dropTreaties cX8_dropTreaties 2 (some (.int)) : Cond) ∈ ALLW := in_all (List.mem_append_right _ (List.mem_of_getElem? (i := 861) (by decide +kernel))) rfl
theorem ml_X11_290 : (.methodLink RX11 290 yX2_dropTides : Cond) ∈ ALLW := in_all (List.mem_append_right _ (List.mem_of_getElem? (i := 862) (by decide +kernel))) rfl
theorem im_X2_dropTides : (.instanceMethod yX2_dropTides : Cond) ∈ ALLW := in_all (List.mem_append_right _ (List.mem_of_getElem? (i := 863) (by decide +kernel))) rfl
theorem se_X2_X2_dropTides_X2_dropTides : (.selects RX2 yX2_dropTides yX2_dropTides : Cond) ∈ ALLW := in_all (List.mem_append_right _ (List.mem_of_getElem? (i := 864) (by decide +kernel))) rfl
theorem cd_X2_dropTides : (.code yX2_dropTides cX2_dropTides 2 (some (.int)) : Cond) ∈ ALLW := in_all (List.mem_append_right _ (List.mem_of_getElem? (i := 865) (by decide +kernel))) rfl
theorem ml_L_148 : (.methodLink RL 148 yX11_image : Cond) ∈ ALLW := in_all (List.mem_append_right _ (List.mem_of_getElem? (i := 866) (by decide +kernel))) rfl
theorem im_X11_image : (.instanceMethod yX11_image : Cond) ∈ ALLW := in_all (List.mem_append_right _ (List.mem_of_getElem? (i := 867) (by decide +kernel))) rfl
theorem se_X11_X11_image_X11_image : (.selects RX11 yX11_image yX11_image : Cond) ∈ ALLW := in_all (List.mem_append_right _ (List.mem_of_getElem? (i := 868) (by decide +kernel))) rfl
theorem cd_X11_image : (.code yX11_image cX11_image 2 (some (.int)) : Cond) ∈ ALLW := in_all (List.mem_append_right _ (List.mem_of_getElem? (i := 869) (by decide +kernel))) rfl
theorem ml_X11_297 : (.methodLink RX11 297 yX8_copyOf : Cond) ∈ ALLW := in_all (List.mem_append_right _ (List.mem_of_getElem? (i := 870) (by decide +kernel))) rfl
theorem im_X8_copyOf : (.instanceMethod yX8_copyOf : Cond) ∈ ALLW := in_all (List.mem_append_right _ (List.mem_of_getElem? (i := 871) (by decide +kernel))) rfl
theorem se_X8_X8_copyOf_X8_copyOf : (.selects RX8 yX8_copyOf yX8_copyOf : Cond) ∈ ALLW := in_all (List.mem_append_right _ (List.mem_of_getElem? (i := 872) (by decide +kernel))) rfl
theorem cd_X8_copyOf : (.code yX8_copyOf cX8_copyOf 3 none : Cond) ∈ ALLW := in_all (List.mem_append_right _ (List.mem_of_getElem? (i := 873) (by decide +kernel))) rfl
theorem ml_X8_37 : (.methodLink RX8 37 yX2_copyOf : Cond) ∈ ALLW := in_all (List.mem_append_right _ (List.mem_of_getElem? (i := 874) (by decide +kernel))) rfl
theorem ml_L_152 : (.methodLink RL 152 yX11_from : Cond) ∈ ALLW := in_all (List.mem_append_right _ (List.mem_of_getElem? (i := 875) (by decide +kernel))) rfl
theorem im_X11_from : (.instanceMethod yX11_from : Cond) ∈ ALLW := in_all (List.mem_append_right _ (List.mem_of_getElem? (i := 876) (by decide +kernel))) rfl
theorem se_X11_X11_from_X11_from : (.selects RX11 yX11_from yX11_from : Cond) ∈ ALLW := in_all (List.mem_append_right _ (List.mem_of_getElem? (i := 877) (by decide +kernel))) rfl
theorem cd_X11_from : (.code yX11_from cX11_from 2 (some (.int)) : Cond) ∈ ALLW := in_all (List.mem_append_right _ (List.mem_of_getElem? (i := 878) (by decide +kernel))) rfl
theorem ml_L_156 : (.methodLink RL 156 yX11_status : Cond) ∈ ALLW := in_all (List.mem_append_right _ (List.mem_of_getElem? (i := 879) (by decide +kernel))) rfl
theorem im_X11_status : (.instanceMethod yX11_status : Cond) ∈ ALLW := in_all (List.mem_append_right _ (List.mem_of_getElem? (i := 880) (by decide +kernel))) rfl
theorem se_X11_X11_status_X11_status : (.selects RX11 yX11_status yX11_status : Cond) ∈ ALLW := in_all (List.mem_append_right _ (List.mem_of_getElem? (i := 881) (by decide +kernel))) rfl
theorem cd_X11_status : (.code yX11_status cX11_status 2 (some (.int)) : Cond) ∈ ALLW := in_all (List.mem_append_right _ (List.mem_of_getElem? (i := 882) (by decide +kernel))) rfl
theorem ml_L_160 : (.methodLink RL 160 yX11_count : Cond) ∈ ALLW := in_all (List.mem_append_right _ (List.mem_of_getElem? (i := 883) (by decide +kernel))) rfl
theorem im_X11_count : (.instanceMethod yX11_count : Cond) ∈ ALLW := in_all (List.mem_append_right _ (List.mem_of_getElem? (i := 884) (by decide +kernel))) rfl
theorem se_X11_X11_count_X11_count : (.selects RX11 yX11_count yX11_count : Cond) ∈ ALLW := in_all (List.mem_append_right _ (List.mem_of_getElem? (i := 885) (by decide +kernel))) rfl
theorem cd_X11_count : (.code yX11_count cX11_count 2 (some (.int)) : Cond) ∈ ALLW := in_all (List.mem_append_right _ (List.mem_of_getElem? (i := 886) (by decide +kernel))) rfl
theorem ml_X11_309 : (.methodLink RX11 309 yX11_amount : Cond) ∈ ALLW := in_all (List.mem_append_right _ (List.mem_of_getElem? (i := 887) (by decide +kernel))) rfl
theorem im_X11_amount : (.instanceMethod yX11_amount : Cond) ∈ ALLW := in_all (List.mem_append_right _ (List.mem_of_getElem? (i := 889) (by decide +kernel))) rfl
theorem cd_X11_amount : (.code yX11_amount cX11_amount 2 (some (.int)) : Cond) ∈ ALLW := in_all (List.mem_append_right _ (List.mem_of_getElem? (i := 890) (by decide +kernel))) rfl
theorem ml_L_164 : (.methodLink RL 164 yX11_digest : Cond) ∈ ALLW := in_all (List.mem_append_right _ (List.mem_of_getElem? (i := 891) (by decide +kernel))) rfl
theorem im_X11_digest : (.instanceMethod yX11_digest : Cond) ∈ ALLW := in_all (List.mem_append_right _ (List.mem_of_getElem? (i := 892) (by decide +kernel))) rfl
theorem se_X11_X11_digest_X11_digest : (.selects RX11 yX11_digest yX11_digest : Cond) ∈ ALLW := in_all (List.mem_append_right _ (List.mem_of_getElem? (i := 893) (by decide +kernel))) rfl
theorem cd_X11_digest : (.code yX11_digest cX11_digest 4 (some (.long)) : Cond) ∈ ALLW := in_all (List.mem_append_right _ (List.mem_of_getElem? (i := 894) (by decide +kernel))) rfl
theorem kl_X11_312 : (.constantLong RX11 312 (907) : Cond) ∈ ALLW := in_all (List.mem_append_right _ (List.mem_of_getElem? (i := 895) (by decide +kernel))) rfl
theorem kl_X11_314 : (.constantLong RX11 314 (31) : Cond) ∈ ALLW := in_all (List.mem_append_right _ (List.mem_of_getElem? (i := 896) (by decide +kernel))) rfl
theorem ml_X11_316 : (.methodLink RX11 316 yX2_mixWants : Cond) ∈ ALLW := in_all (List.mem_append_right _ (List.mem_of_getElem? (i := 897) (by decide +kernel))) rfl
theorem im_X2_mixWants : (.instanceMethod yX2_mixWants : Cond) ∈ ALLW := in_all (List.mem_append_right _ (List.mem_of_getElem? (i := 898) (by decide +kernel))) rfl
theorem se_X2_X2_mixWants_X2_mixWants : (.selects RX2 yX2_mixWants yX2_mixWants : Cond) ∈ ALLW := in_all (List.mem_append_right _ (List.mem_of_getElem? (i := 899) (by decide +kernel))) rfl
theorem cd_X2_mixWants : (.code yX2_mixWants cX2_mixWants 4 (some (.long)) : Cond) ∈ ALLW := in_all (List.mem_append_right _ (List.mem_of_getElem? (i := 900) (by decide +kernel))) rfl
theorem kl_X2_166 : (.constantLong RX2 166 (31) : Cond) ∈ ALLW := in_all (List.mem_append_right _ (List.mem_of_getElem? (i := 901) (by decide +kernel))) rfl
theorem ml_X11_320 : (.methodLink RX11 320 yX8_mixCells : Cond) ∈ ALLW := in_all (List.mem_append_right _ (List.mem_of_getElem? (i := 902) (by decide +kernel))) rfl
theorem im_X8_mixCells : (.instanceMethod yX8_mixCells : Cond) ∈ ALLW := in_all (List.mem_append_right _ (List.mem_of_getElem? (i := 903) (by decide +kernel))) rfl
theorem se_X8_X8_mixCells_X8_mixCells : (.selects RX8 yX8_mixCells yX8_mixCells : Cond) ∈ ALLW := in_all (List.mem_append_right _ (List.mem_of_getElem? (i := 904) (by decide +kernel))) rfl
theorem cd_X8_mixCells : (.code yX8_mixCells cX8_mixCells 4 (some (.long)) : Cond) ∈ ALLW := in_all (List.mem_append_right _ (List.mem_of_getElem? (i := 905) (by decide +kernel))) rfl
theorem kl_X8_103 : (.constantLong RX8 103 (31) : Cond) ∈ ALLW := in_all (List.mem_append_right _ (List.mem_of_getElem? (i := 906) (by decide +kernel))) rfl
theorem ml_X11_323 : (.methodLink RX11 323 yX8_mixTreaties : Cond) ∈ ALLW := in_all (List.mem_append_right _ (List.mem_of_getElem? (i := 907) (by decide +kernel))) rfl
theorem im_X8_mixTreaties : (.instanceMethod yX8_mixTreaties : Cond) ∈ ALLW := in_all (List.mem_append_right _ (List.mem_of_getElem? (i := 908) (by decide +kernel))) rfl
theorem se_X8_X8_mixTreaties_X8_mixTreaties : (.selects RX8 yX8_mixTreaties yX8_mixTreaties : Cond) ∈ ALLW := in_all (List.mem_append_right _ (List.mem_of_getElem? (i := 909) (by decide +kernel))) rfl
theorem cd_X8_mixTreaties : (.code yX8_mixTreaties cX8_mixTreaties 5 (some (.long)) : Cond) ∈ ALLW := in_all (List.mem_append_right _ (List.mem_of_getElem? (i := 910) (by decide +kernel))) rfl
theorem ml_X8_135 : (.methodLink RX8 135 yX10_isBreached : Cond) ∈ ALLW := in_all (List.mem_append_right _ (List.mem_of_getElem? (i := 911) (by decide +kernel))) rfl
theorem ml_X11_326 : (.methodLink RX11 326 yX2_mixTides : Cond) ∈ ALLW := in_all (List.mem_append_right _ (List.mem_of_getElem? (i := 912) (by decide +kernel))) rfl
theorem im_X2_mixTides : (.instanceMethod yX2_mixTides : Cond) ∈ ALLW := in_all (List.mem_append_right _ (List.mem_of_getElem? (i := 913) (by decide +kernel))) rfl
theorem se_X2_X2_mixTides_X2_mixTides : (.selects RX2 yX2_mixTides yX2_mixTides : Cond) ∈ ALLW := in_all (List.mem_append_right _ (List.mem_of_getElem? (i := 914) (by decide +kernel))) rfl
theorem cd_X2_mixTides : (.code yX2_mixTides cX2_mixTides 4 (some (.long)) : Cond) ∈ ALLW := in_all (List.mem_append_right _ (List.mem_of_getElem? (i := 915) (by decide +kernel))) rfl
theorem cl_L_10 : (.classLink RL 10 RX12 : Cond) ∈ ALLW := in_all (List.mem_append_right _ (List.mem_of_getElem? (i := 916) (by decide +kernel))) rfl
theorem it_X12 : (.instantiable RX12 17 : Cond) ∈ ALLW := in_all (List.mem_append_right _ (List.mem_of_getElem? (i := 917) (by decide +kernel))) rfl
theorem ml_L_12 : (.methodLink RL 12 yX12_init : Cond) ∈ ALLW := in_all (List.mem_append_right _ (List.mem_of_getElem? (i := 918) (by decide +kernel))) rfl
theorem im_X12_init : (.instanceMethod yX12_init : Cond) ∈ ALLW := in_all (List.mem_append_right _ (List.mem_of_getElem? (i := 919) (by decide +kernel))) rfl
theorem cd_X12_init : (.code yX12_init cX12_init 1 none : Cond) ∈ ALLW := in_all (List.mem_append_right _ (List.mem_of_getElem? (i := 920) (by decide +kernel))) rfl
theorem ml_X12_1 : (.methodLink RX12 1 objectInit : Cond) ∈ ALLW := in_all (List.mem_append_right _ (List.mem_of_getElem? (i := 921) (by decide +kernel))) rfl
theorem ml_X12_41 : (.methodLink RX12 41 yX12_begins : Cond) ∈ ALLW := in_all (List.mem_append_right _ (List.mem_of_getElem? (i := 922) (by decide +kernel))) rfl
theorem im_X12_begins : (.instanceMethod yX12_begins : Cond) ∈ ALLW := in_all (List.mem_append_right _ (List.mem_of_getElem? (i := 924) (by decide +kernel))) rfl
theorem cd_X12_begins : (.code yX12_begins cX12_begins 3 none : Cond) ∈ ALLW := in_all (List.mem_append_right _ (List.mem_of_getElem? (i := 925) (by decide +kernel))) rfl
theorem fl_X12_7 : (.fieldLink RX12 7 "TideTreatyModel" "book" "[I" : Cond) ∈ ALLW := in_all (List.mem_append_right _ (List.mem_of_getElem? (i := 926) (by decide +kernel))) rfl
theorem fl_X12_13 : (.fieldLink RX12 13 "TideTreatyModel" "images" "[I" : Cond) ∈ ALLW := in_all (List.mem_append_right _ (List.mem_of_getElem? (i := 927) (by decide +kernel))) rfl
theorem fl_X12_16 : (.fieldLink RX12 16 "TideTreatyModel" "kept" "[Z" : Cond) ∈ ALLW := in_all (List.mem_append_right _ (List.mem_of_getElem? (i := 928) (by decide +kernel))) rfl
theorem fl_X12_20 : (.fieldLink RX12 20 "TideTreatyModel" "aside" "[I" : Cond) ∈ ALLW := in_all (List.mem_append_right _ (List.mem_of_getElem? (i := 929) (by decide +kernel))) rfl
theorem fl_X12_23 : (.fieldLink RX12 23 "TideTreatyModel" "held" "[I" : Cond) ∈ ALLW := in_all (List.mem_append_right _ (List.mem_of_getElem? (i := 930) (by decide +kernel))) rfl
theorem fl_X12_26 : (.fieldLink RX12 26 "TideTreatyModel" "refused" "[I" : Cond) ∈ ALLW := in_all (List.mem_append_right _ (List.mem_of_getElem? (i := 931) (by decide +kernel))) rfl
theorem fl_X12_45 : (.fieldLink RX12 45 "TideTreatyModel" "quiet" "Z" : Cond) ∈ ALLW := in_all (List.mem_append_right _ (List.mem_of_getElem? (i := 932) (by decide +kernel))) rfl
theorem fl_X12_29 : (.fieldLink RX12 29 "TideTreatyModel" "text" "[I" : Cond) ∈ ALLW := in_all (List.mem_append_right _ (List.mem_of_getElem? (i := 933) (by decide +kernel))) rfl
theorem fl_X12_107 : (.fieldLink RX12 107 "TideTreatyModel" "typed" "I" : Cond) ∈ ALLW := in_all (List.mem_append_right _ (List.mem_of_getElem? (i := 934) (by decide +kernel))) rfl
theorem fl_X12_111 : (.fieldLink RX12 111 "TideTreatyModel" "place" "I" : Cond) ∈ ALLW := in_all (List.mem_append_right _ (List.mem_of_getElem? (i := 935) (by decide +kernel))) rfl
theorem fl_X12_130 : (.fieldLink RX12 130 "TideTreatyModel" "start" "I" : Cond) ∈ ALLW := in_all (List.mem_append_right _ (List.mem_of_getElem? (i := 936) (by decide +kernel))) rfl
theorem fl_X12_133 : (.fieldLink RX12 133 "TideTreatyModel" "token" "I" : Cond) ∈ ALLW := in_all (List.mem_append_right _ (List.mem_of_getElem? (i := 937) (by decide +kernel))) rfl
theorem fl_X12_144 : (.fieldLink RX12 144 "TideTreatyModel" "value" "I" : Cond) ∈ ALLW := in_all (List.mem_append_right _ (List.mem_of_getElem? (i := 938) (by decide +kernel))) rfl
theorem fl_X12_32 : (.fieldLink RX12 32 "TideTreatyModel" "items" "[I" : Cond) ∈ ALLW := in_all (List.mem_append_right _ (List.mem_of_getElem? (i := 939) (by decide +kernel))) rfl
theorem fl_X12_147 : (.fieldLink RX12 147 "TideTreatyModel" "many" "I" : Cond) ∈ ALLW := in_all (List.mem_append_right _ (List.mem_of_getElem? (i := 940) (by decide +kernel))) rfl
theorem fl_X12_35 : (.fieldLink RX12 35 "TideTreatyModel" "tills" "[I" : Cond) ∈ ALLW := in_all (List.mem_append_right _ (List.mem_of_getElem? (i := 941) (by decide +kernel))) rfl
theorem fl_X12_38 : (.fieldLink RX12 38 "TideTreatyModel" "votes" "[I" : Cond) ∈ ALLW := in_all (List.mem_append_right _ (List.mem_of_getElem? (i := 942) (by decide +kernel))) rfl
theorem sc_X12 : (.superclass RX12 "java/lang/Object" : Cond) ∈ ALLW := in_all (List.mem_append_right _ (List.mem_of_getElem? (i := 977) (by decide +kernel))) rfl
theorem ac_boolean : (.arrayClass .boolean : Cond) ∈ ALLW := in_all (List.mem_append_right _ (List.mem_of_getElem? (i := 978) (by decide +kernel))) rfl
theorem ml_L_17 : (.methodLink RL 17 yX12_coast : Cond) ∈ ALLW := in_all (List.mem_append_right _ (List.mem_of_getElem? (i := 979) (by decide +kernel))) rfl
theorem im_X12_coast : (.instanceMethod yX12_coast : Cond) ∈ ALLW := in_all (List.mem_append_right _ (List.mem_of_getElem? (i := 980) (by decide +kernel))) rfl
theorem se_X12_X12_coast_X12_coast : (.selects RX12 yX12_coast yX12_coast : Cond) ∈ ALLW := in_all (List.mem_append_right _ (List.mem_of_getElem? (i := 981) (by decide +kernel))) rfl
theorem cd_X12_coast : (.code yX12_coast cX12_coast 3 (some (.int)) : Cond) ∈ ALLW := in_all (List.mem_append_right _ (List.mem_of_getElem? (i := 982) (by decide +kernel))) rfl
theorem kl_X12_57 : (.constantLong RX12 57 (8) : Cond) ∈ ALLW := in_all (List.mem_append_right _ (List.mem_of_getElem? (i := 983) (by decide +kernel))) rfl
theorem ml_X12_53 : (.methodLink RX12 53 yX12_in : Cond) ∈ ALLW := in_all (List.mem_append_right _ (List.mem_of_getElem? (i := 984) (by decide +kernel))) rfl
theorem st_X12_in : (.static yX12_in : Cond) ∈ ALLW := in_all (List.mem_append_right _ (List.mem_of_getElem? (i := 985) (by decide +kernel))) rfl
theorem cd_X12_in : (.code yX12_in cX12_in 6 (some (.boolean)) : Cond) ∈ ALLW := in_all (List.mem_append_right _ (List.mem_of_getElem? (i := 986) (by decide +kernel))) rfl
theorem ml_X12_59 : (.methodLink RX12 59 yX12_bad : Cond) ∈ ALLW := in_all (List.mem_append_right _ (List.mem_of_getElem? (i := 987) (by decide +kernel))) rfl
theorem im_X12_bad : (.instanceMethod yX12_bad : Cond) ∈ ALLW := in_all (List.mem_append_right _ (List.mem_of_getElem? (i := 989) (by decide +kernel))) rfl
theorem cd_X12_bad : (.code yX12_bad cX12_bad 1 (some (.int)) : Cond) ∈ ALLW := in_all (List.mem_append_right _ (List.mem_of_getElem? (i := 990) (by decide +kernel))) rfl
theorem ml_X12_49 : (.methodLink RX12 49 yX12_refuses : Cond) ∈ ALLW := in_all (List.mem_append_right _ (List.mem_of_getElem? (i := 991) (by decide +kernel))) rfl
theorem im_X12_refuses : (.instanceMethod yX12_refuses : Cond) ∈ ALLW := in_all (List.mem_append_right _ (List.mem_of_getElem? (i := 993) (by decide +kernel))) rfl
theorem cd_X12_refuses : (.code yX12_refuses cX12_refuses 3 (some (.int)) : Cond) ∈ ALLW := in_all (List.mem_append_right _ (List.mem_of_getElem? (i := 994) (by decide +kernel))) rfl
theorem ml_L_22 : (.methodLink RL 22 yX12_cell : Cond) ∈ ALLW := in_all (List.mem_append_right _ (List.mem_of_getElem? (i := 995) (by decide +kernel))) rfl
theorem im_X12_cell : (.instanceMethod yX12_cell : Cond) ∈ ALLW := in_all (List.mem_append_right _ (List.mem_of_getElem? (i := 996) (by decide +kernel))) rfl
theorem se_X12_X12_cell_X12_cell : (.selects RX12 yX12_cell yX12_cell : Cond) ∈ ALLW := in_all (List.mem_append_right _ (List.mem_of_getElem? (i := 997) (by decide +kernel))) rfl
theorem cd_X12_cell : (.code yX12_cell cX12_cell 5 (some (.int)) : Cond) ∈ ALLW := in_all (List.mem_append_right _ (List.mem_of_getElem? (i := 998) (by decide +kernel))) rfl
theorem ml_X12_63 : (.methodLink RX12 63 yX12_isCell : Cond) ∈ ALLW := in_all (List.mem_append_right _ (List.mem_of_getElem? (i := 999) (by decide +kernel))) rfl
theorem im_X12_isCell : (.instanceMethod yX12_isCell : Cond) ∈ ALLW := in_all (List.mem_append_right _ (List.mem_of_getElem? (i := 1001) (by decide +kernel))) rfl
theorem cd_X12_isCell : (.code yX12_isCell cX12_isCell 2 (some (.boolean)) : Cond) ∈ ALLW := in_all (List.mem_append_right _ (List.mem_of_getElem? (i := 1002) (by decide +kernel))) rfl
theorem kl_X12_67 : (.constantLong RX12 67 (9) : Cond) ∈ ALLW := in_all (List.mem_append_right _ (List.mem_of_getElem? (i := 1003) (by decide +kernel))) rfl
theorem kl_X12_69 : (.constantLong RX12 69 (99) : Cond) ∈ ALLW := in_all (List.mem_append_right _ (List.mem_of_getElem? (i := 1004) (by decide +kernel))) rfl
theorem kl_X12_71 : (.constantLong RX12 71 (2) : Cond) ∈ ALLW := in_all (List.mem_append_right _ (List.mem_of_getElem? (i := 1005) (by decide +kernel))) rfl
theorem ml_X12_73 : (.methodLink RX12 73 yX12_at : Cond) ∈ ALLW := in_all (List.mem_append_right _ (List.mem_of_getElem? (i := 1006) (by decide +kernel))) rfl
theorem st_X12_at : (.static yX12_at : Cond) ∈ ALLW := in_all (List.mem_append_right _ (List.mem_of_getElem? (i := 1007) (by decide +kernel))) rfl
theorem cd_X12_at : (.code yX12_at cX12_at 2 (some (.int)) : Cond) ∈ ALLW := in_all (List.mem_append_right _ (List.mem_of_getElem? (i := 1008) (by decide +kernel))) rfl
theorem ml_X12_76 : (.methodLink RX12 76 yX12_tells : Cond) ∈ ALLW := in_all (List.mem_append_right _ (List.mem_of_getElem? (i := 1009) (by decide +kernel))) rfl
theorem im_X12_tells : (.instanceMethod yX12_tells : Cond) ∈ ALLW := in_all (List.mem_append_right _ (List.mem_of_getElem? (i := 1011) (by decide +kernel))) rfl
theorem cd_X12_tells : (.code yX12_tells cX12_tells 4 (some (.int)) : Cond) ∈ ALLW := in_all (List.mem_append_right _ (List.mem_of_getElem? (i := 1012) (by decide +kernel))) rfl
theorem ml_L_27 : (.methodLink RL 27 yX12_dike : Cond) ∈ ALLW := in_all (List.mem_append_right _ (List.mem_of_getElem? (i := 1013) (by decide +kernel))) rfl
theorem im_X12_dike : (.instanceMethod yX12_dike : Cond) ∈ ALLW := in_all (List.mem_append_right _ (List.mem_of_getElem? (i := 1014) (by decide +kernel))) rfl
theorem se_X12_X12_dike_X12_dike : (.selects RX12 yX12_dike yX12_dike : Cond) ∈ ALLW := in_all (List.mem_append_right _ (List.mem_of_getElem? (i := 1015) (by decide +kernel))) rfl
theorem cd_X12_dike : (.code yX12_dike cX12_dike 3 (some (.int)) : Cond) ∈ ALLW := in_all (List.mem_append_right _ (List.mem_of_getElem? (i := 1016) (by decide +kernel))) rfl
theorem ml_L_31 : (.methodLink RL 31 yX12_want : Cond) ∈ ALLW := in_all (List.mem_append_right _ (List.mem_of_getElem? (i := 1017) (by decide +kernel))) rfl
theorem im_X12_want : (.instanceMethod yX12_want : Cond) ∈ ALLW := in_all (List.mem_append_right _ (List.mem_of_getElem? (i := 1018) (by decide +kernel))) rfl
theorem se_X12_X12_want_X12_want : (.selects RX12 yX12_want yX12_want : Cond) ∈ ALLW := in_all (List.mem_append_right _ (List.mem_of_getElem? (i := 1019) (by decide +kernel))) rfl
theorem cd_X12_want : (.code yX12_want cX12_want 3 (some (.int)) : Cond) ∈ ALLW := in_all (List.mem_append_right _ (List.mem_of_getElem? (i := 1020) (by decide +kernel))) rfl
theorem kl_X12_79 : (.constantLong RX12 79 (7) : Cond) ∈ ALLW := in_all (List.mem_append_right _ (List.mem_of_getElem? (i := 1021) (by decide +kernel))) rfl
theorem kl_X12_81 : (.constantLong RX12 81 (15) : Cond) ∈ ALLW := in_all (List.mem_append_right _ (List.mem_of_getElem? (i := 1022) (by decide +kernel))) rfl
theorem ml_L_35 : (.methodLink RL 35 yX12_moon : Cond) ∈ ALLW := in_all (List.mem_append_right _ (List.mem_of_getElem? (i := 1023) (by decide +kernel))) rfl
theorem im_X12_moon : (.instanceMethod yX12_moon : Cond) ∈ ALLW := in_all (List.mem_append_right _ (List.mem_of_getElem? (i := 1024) (by decide +kernel))) rfl
theorem se_X12_X12_moon_X12_moon : (.selects RX12 yX12_moon yX12_moon : Cond) ∈ ALLW := in_all (List.mem_append_right _ (List.mem_of_getElem? (i := 1025) (by decide +kernel))) rfl
theorem cd_X12_moon : (.code yX12_moon cX12_moon 2 (some (.int)) : Cond) ∈ ALLW := in_all (List.mem_append_right _ (List.mem_of_getElem? (i := 1026) (by decide +kernel))) rfl
theorem ml_L_39 : (.methodLink RL 39 yX12_bells : Cond) ∈ ALLW := in_all (List.mem_append_right _ (List.mem_of_getElem? (i := 1027) (by decide +kernel))) rfl
theorem im_X12_bells : (.instanceMethod yX12_bells : Cond) ∈ ALLW := in_all (List.mem_append_right _ (List.mem_of_getElem? (i := 1028) (by decide +kernel))) rfl
theorem se_X12_X12_bells_X12_bells : (.selects RX12 yX12_bells yX12_bells : Cond) ∈ ALLW := in_all (List.mem_append_right _ (List.mem_of_getElem? (i := 1029) (by decide +kernel))) rfl
theorem cd_X12_bells : (.code yX12_bells cX12_bells 2 (some (.int)) : Cond) ∈ ALLW := in_all (List.mem_append_right _ (List.mem_of_getElem? (i := 1030) (by decide +kernel))) rfl
theorem kl_X12_83 : (.constantLong RX12 83 (999) : Cond) ∈ ALLW := in_all (List.mem_append_right _ (List.mem_of_getElem? (i := 1031) (by decide +kernel))) rfl
theorem ml_L_44 : (.methodLink RL 44 yX12_treaty : Cond) ∈ ALLW := in_all (List.mem_append_right _ (List.mem_of_getElem? (i := 1032) (by decide +kernel))) rfl
theorem im_X12_treaty : (.instanceMethod yX12_treaty : Cond) ∈ ALLW := in_all (List.mem_append_right _ (List.mem_of_getElem? (i := 1033) (by decide +kernel))) rfl
theorem se_X12_X12_treaty_X12_treaty : (.selects RX12 yX12_treaty yX12_treaty : Cond) ∈ ALLW := in_all (List.mem_append_right _ (List.mem_of_getElem? (i := 1034) (by decide +kernel))) rfl
theorem cd_X12_treaty : (.code yX12_treaty cX12_treaty 8 (some (.int)) : Cond) ∈ ALLW := in_all (List.mem_append_right _ (List.mem_of_getElem? (i := 1035) (by decide +kernel))) rfl
theorem kl_X12_85 : (.constantLong RX12 85 (5) : Cond) ∈ ALLW := in_all (List.mem_append_right _ (List.mem_of_getElem? (i := 1036) (by decide +kernel))) rfl
theorem kl_X12_87 : (.constantLong RX12 87 (20) : Cond) ∈ ALLW := in_all (List.mem_append_right _ (List.mem_of_getElem? (i := 1037) (by decide +kernel))) rfl
theorem ml_X12_89 : (.methodLink RX12 89 yX12_full : Cond) ∈ ALLW := in_all (List.mem_append_right _ (List.mem_of_getElem? (i := 1038) (by decide +kernel))) rfl
theorem im_X12_full : (.instanceMethod yX12_full : Cond) ∈ ALLW := in_all (List.mem_append_right _ (List.mem_of_getElem? (i := 1040) (by decide +kernel))) rfl
theorem cd_X12_full : (.code yX12_full cX12_full 1 (some (.int)) : Cond) ∈ ALLW := in_all (List.mem_append_right _ (List.mem_of_getElem? (i := 1041) (by decide +kernel))) rfl
theorem ml_X12_92 : (.methodLink RX12 92 yX12_adds : Cond) ∈ ALLW := in_all (List.mem_append_right _ (List.mem_of_getElem? (i := 1042) (by decide +kernel))) rfl
theorem im_X12_adds : (.instanceMethod yX12_adds : Cond) ∈ ALLW := in_all (List.mem_append_right _ (List.mem_of_getElem? (i := 1044) (by decide +kernel))) rfl
theorem cd_X12_adds : (.code yX12_adds cX12_adds 8 none : Cond) ∈ ALLW := in_all (List.mem_append_right _ (List.mem_of_getElem? (i := 1045) (by decide +kernel))) rfl
theorem ml_X12_96 : (.methodLink RX12 96 yX12_of0 : Cond) ∈ ALLW := in_all (List.mem_append_right _ (List.mem_of_getElem? (i := 1046) (by decide +kernel))) rfl
theorem st_X12_of0 : (.static yX12_of0 : Cond) ∈ ALLW := in_all (List.mem_append_right _ (List.mem_of_getElem? (i := 1047) (by decide +kernel))) rfl
theorem cd_X12_of0 : (.code yX12_of0 cX12_of0 2 (some (.int)) : Cond) ∈ ALLW := in_all (List.mem_append_right _ (List.mem_of_getElem? (i := 1048) (by decide +kernel))) rfl
theorem ml_L_48 : (.methodLink RL 48 yX12_end : Cond) ∈ ALLW := in_all (List.mem_append_right _ (List.mem_of_getElem? (i := 1049) (by decide +kernel))) rfl
theorem im_X12_end : (.instanceMethod yX12_end : Cond) ∈ ALLW := in_all (List.mem_append_right _ (List.mem_of_getElem? (i := 1050) (by decide +kernel))) rfl
theorem se_X12_X12_end_X12_end : (.selects RX12 yX12_end yX12_end : Cond) ∈ ALLW := in_all (List.mem_append_right _ (List.mem_of_getElem? (i := 1051) (by decide +kernel))) rfl
theorem cd_X12_end : (.code yX12_end cX12_end 2 (some (.int)) : Cond) ∈ ALLW := in_all (List.mem_append_right _ (List.mem_of_getElem? (i := 1052) (by decide +kernel))) rfl
theorem ml_X12_99 : (.methodLink RX12 99 yX12_isTreaty : Cond) ∈ ALLW := in_all (List.mem_append_right _ (List.mem_of_getElem? (i := 1053) (by decide +kernel))) rfl
theorem im_X12_isTreaty : (.instanceMethod yX12_isTreaty : Cond) ∈ ALLW := in_all (List.mem_append_right _ (List.mem_of_getElem? (i := 1055) (by decide +kernel))) rfl
theorem cd_X12_isTreaty : (.code yX12_isTreaty cX12_isTreaty 2 (some (.boolean)) : Cond) ∈ ALLW := in_all (List.mem_append_right _ (List.mem_of_getElem? (i := 1056) (by decide +kernel))) rfl
theorem ml_X12_102 : (.methodLink RX12 102 yX12_no : Cond) ∈ ALLW := in_all (List.mem_append_right _ (List.mem_of_getElem? (i := 1057) (by decide +kernel))) rfl
theorem im_X12_no : (.instanceMethod yX12_no : Cond) ∈ ALLW := in_all (List.mem_append_right _ (List.mem_of_getElem? (i := 1059) (by decide +kernel))) rfl
theorem cd_X12_no : (.code yX12_no cX12_no 1 (some (.int)) : Cond) ∈ ALLW := in_all (List.mem_append_right _ (List.mem_of_getElem? (i := 1060) (by decide +kernel))) rfl
theorem ml_L_52 : (.methodLink RL 52 yX12_type : Cond) ∈ ALLW := in_all (List.mem_append_right _ (List.mem_of_getElem? (i := 1061) (by decide +kernel))) rfl
theorem im_X12_type : (.instanceMethod yX12_type : Cond) ∈ ALLW := in_all (List.mem_append_right _ (List.mem_of_getElem? (i := 1062) (by decide +kernel))) rfl
theorem se_X12_X12_type_X12_type : (.selects RX12 yX12_type yX12_type : Cond) ∈ ALLW := in_all (List.mem_append_right _ (List.mem_of_getElem? (i := 1063) (by decide +kernel))) rfl
theorem cd_X12_type : (.code yX12_type cX12_type 2 (some (.int)) : Cond) ∈ ALLW := in_all (List.mem_append_right _ (List.mem_of_getElem? (i := 1064) (by decide +kernel))) rfl
theorem kl_X12_105 : (.constantLong RX12 105 (127) : Cond) ∈ ALLW := in_all (List.mem_append_right _ (List.mem_of_getElem? (i := 1065) (by decide +kernel))) rfl
theorem ml_L_57 : (.methodLink RL 57 yX12_clear : Cond) ∈ ALLW := in_all (List.mem_append_right _ (List.mem_of_getElem? (i := 1066) (by decide +kernel))) rfl
theorem im_X12_clear : (.instanceMethod yX12_clear : Cond) ∈ ALLW := in_all (List.mem_append_right _ (List.mem_of_getElem? (i := 1067) (by decide +kernel))) rfl
theorem se_X12_X12_clear_X12_clear : (.selects RX12 yX12_clear yX12_clear : Cond) ∈ ALLW := in_all (List.mem_append_right _ (List.mem_of_getElem? (i := 1068) (by decide +kernel))) rfl
theorem cd_X12_clear : (.code yX12_clear cX12_clear 2 (some (.int)) : Cond) ∈ ALLW := in_all (List.mem_append_right _ (List.mem_of_getElem? (i := 1069) (by decide +kernel))) rfl
theorem ml_L_61 : (.methodLink RL 61 yX12_read : Cond) ∈ ALLW := in_all (List.mem_append_right _ (List.mem_of_getElem? (i := 1070) (by decide +kernel))) rfl
theorem im_X12_read : (.instanceMethod yX12_read : Cond) ∈ ALLW := in_all (List.mem_append_right _ (List.mem_of_getElem? (i := 1071) (by decide +kernel))) rfl
theorem se_X12_X12_read_X12_read : (.selects RX12 yX12_read yX12_read : Cond) ∈ ALLW := in_all (List.mem_append_right _ (List.mem_of_getElem? (i := 1072) (by decide +kernel))) rfl
theorem cd_X12_read : (.code yX12_read cX12_read 3 (some (.int)) : Cond) ∈ ALLW := in_all (List.mem_append_right _ (List.mem_of_getElem? (i := 1073) (by decide +kernel))) rfl
theorem ml_X12_177 : (.methodLink RX12 177 yX12_reads : Cond) ∈ ALLW := in_all (List.mem_append_right _ (List.mem_of_getElem? (i := 1074) (by decide +kernel))) rfl
theorem im_X12_reads : (.instanceMethod yX12_reads : Cond) ∈ ALLW := in_all (List.mem_append_right _ (List.mem_of_getElem? (i := 1076) (by decide +kernel))) rfl
theorem cd_X12_reads : (.code yX12_reads cX12_reads 3 (some (.boolean)) : Cond) ∈ ALLW := in_all (List.mem_append_right _ (List.mem_of_getElem? (i := 1077) (by decide +kernel))) rfl
theorem ml_X12_150 : (.methodLink RX12 150 yX12_scans : Cond) ∈ ALLW := in_all (List.mem_append_right _ (List.mem_of_getElem? (i := 1078) (by decide +kernel))) rfl
theorem im_X12_scans : (.instanceMethod yX12_scans : Cond) ∈ ALLW := in_all (List.mem_append_right _ (List.mem_of_getElem? (i := 1080) (by decide +kernel))) rfl
theorem cd_X12_scans : (.code yX12_scans cX12_scans 3 none : Cond) ∈ ALLW := in_all (List.mem_append_right _ (List.mem_of_getElem? (i := 1081) (by decide +kernel))) rfl
theorem ml_X12_126 : (.methodLink RX12 126 yX12_isAt : Cond) ∈ ALLW := in_all (List.mem_append_right _ (List.mem_of_getElem? (i := 1082) (by decide +kernel))) rfl
theorem im_X12_isAt : (.instanceMethod yX12_isAt : Cond) ∈ ALLW := in_all (List.mem_append_right _ (List.mem_of_getElem? (i := 1084) (by decide +kernel))) rfl
theorem cd_X12_isAt : (.code yX12_isAt cX12_isAt 3 (some (.boolean)) : Cond) ∈ ALLW := in_all (List.mem_append_right _ (List.mem_of_getElem? (i := 1085) (by decide +kernel))) rfl
theorem kl_X12_136 : (.constantLong RX12 136 (32) : Cond) ∈ ALLW := in_all (List.mem_append_right _ (List.mem_of_getElem? (i := 1086) (by decide +kernel))) rfl
theorem kl_X12_138 : (.constantLong RX12 138 (97) : Cond) ∈ ALLW := in_all (List.mem_append_right _ (List.mem_of_getElem? (i := 1087) (by decide +kernel))) rfl
theorem ml_X12_140 : (.methodLink RX12 140 yX12_verbOf : Cond) ∈ ALLW := in_all (List.mem_append_right _ (List.mem_of_getElem? (i := 1088) (by decide +kernel))) rfl
theorem st_X12_verbOf : (.static yX12_verbOf : Cond) ∈ ALLW := in_all (List.mem_append_right _ (List.mem_of_getElem? (i := 1089) (by decide +kernel))) rfl
theorem cd_X12_verbOf : (.code yX12_verbOf cX12_verbOf 4 (some (.int)) : Cond) ∈ ALLW := in_all (List.mem_append_right _ (List.mem_of_getElem? (i := 1090) (by decide +kernel))) rfl
theorem kl_X12_114 : (.constantLong RX12 114 (3638900) : Cond) ∈ ALLW := in_all (List.mem_append_right _ (List.mem_of_getElem? (i := 1091) (by decide +kernel))) rfl
theorem kl_X12_116 : (.constantLong RX12 116 (103820) : Cond) ∈ ALLW := in_all (List.mem_append_right _ (List.mem_of_getElem? (i := 1092) (by decide +kernel))) rfl
theorem kl_X12_118 : (.constantLong RX12 118 (140645) : Cond) ∈ ALLW := in_all (List.mem_append_right _ (List.mem_of_getElem? (i := 1093) (by decide +kernel))) rfl
theorem kl_X12_120 : (.constantLong RX12 120 (755156) : Cond) ∈ ALLW := in_all (List.mem_append_right _ (List.mem_of_getElem? (i := 1094) (by decide +kernel))) rfl
theorem kl_X12_122 : (.constantLong RX12 122 (441838) : Cond) ∈ ALLW := in_all (List.mem_append_right _ (List.mem_of_getElem? (i := 1095) (by decide +kernel))) rfl
theorem kl_X12_124 : (.constantLong RX12 124 (690128537) : Cond) ∈ ALLW := in_all (List.mem_append_right _ (List.mem_of_getElem? (i := 1096) (by decide +kernel))) rfl
theorem ml_X12_153 : (.methodLink RX12 153 yX12_numbers : Cond) ∈ ALLW := in_all (List.mem_append_right _ (List.mem_of_getElem? (i := 1097) (by decide +kernel))) rfl
theorem st_X12_numbers : (.static yX12_numbers : Cond) ∈ ALLW := in_all (List.mem_append_right _ (List.mem_of_getElem? (i := 1098) (by decide +kernel))) rfl
theorem cd_X12_numbers : (.code yX12_numbers cX12_numbers 1 (some (.int)) : Cond) ∈ ALLW := in_all (List.mem_append_right _ (List.mem_of_getElem? (i := 1099) (by decide +kernel))) rfl
theorem ml_X12_181 : (.methodLink RX12 181 yX12_tellsItem : Cond) ∈ ALLW := in_all (List.mem_append_right _ (List.mem_of_getElem? (i := 1100) (by decide +kernel))) rfl
theorem im_X12_tellsItem : (.instanceMethod yX12_tellsItem : Cond) ∈ ALLW := in_all (List.mem_append_right _ (List.mem_of_getElem? (i := 1102) (by decide +kernel))) rfl
theorem cd_X12_tellsItem : (.code yX12_tellsItem cX12_tellsItem 8 (some (.boolean)) : Cond) ∈ ALLW := in_all (List.mem_append_right _ (List.mem_of_getElem? (i := 1103) (by decide +kernel))) rfl
theorem ml_X12_157 : (.methodLink RX12 157 yX12_treaty : Cond) ∈ ALLW := in_all (List.mem_append_right _ (List.mem_of_getElem? (i := 1104) (by decide +kernel))) rfl
theorem ml_X12_161 : (.methodLink RX12 161 yX12_coast : Cond) ∈ ALLW := in_all (List.mem_append_right _ (List.mem_of_getElem? (i := 1105) (by decide +kernel))) rfl
theorem ml_X12_164 : (.methodLink RX12 164 yX12_cell : Cond) ∈ ALLW := in_all (List.mem_append_right _ (List.mem_of_getElem? (i := 1106) (by decide +kernel))) rfl
theorem ml_X12_168 : (.methodLink RX12 168 yX12_dike : Cond) ∈ ALLW := in_all (List.mem_append_right _ (List.mem_of_getElem? (i := 1107) (by decide +kernel))) rfl
theorem ml_X12_171 : (.methodLink RX12 171 yX12_want : Cond) ∈ ALLW := in_all (List.mem_append_right _ (List.mem_of_getElem? (i := 1108) (by decide +kernel))) rfl
theorem ml_X12_174 : (.methodLink RX12 174 yX12_moon : Cond) ∈ ALLW := in_all (List.mem_append_right _ (List.mem_of_getElem? (i := 1109) (by decide +kernel))) rfl
theorem ml_L_65 : (.methodLink RL 65 yX12_year : Cond) ∈ ALLW := in_all (List.mem_append_right _ (List.mem_of_getElem? (i := 1110) (by decide +kernel))) rfl
theorem im_X12_year : (.instanceMethod yX12_year : Cond) ∈ ALLW := in_all (List.mem_append_right _ (List.mem_of_getElem? (i := 1111) (by decide +kernel))) rfl
theorem se_X12_X12_year_X12_year : (.selects RX12 yX12_year yX12_year : Cond) ∈ ALLW := in_all (List.mem_append_right _ (List.mem_of_getElem? (i := 1112) (by decide +kernel))) rfl
theorem cd_X12_year : (.code yX12_year cX12_year 3 (some (.int)) : Cond) ∈ ALLW := in_all (List.mem_append_right _ (List.mem_of_getElem? (i := 1113) (by decide +kernel))) rfl
theorem ml_X12_212 : (.methodLink RX12 212 yX12_remembers : Cond) ∈ ALLW := in_all (List.mem_append_right _ (List.mem_of_getElem? (i := 1114) (by decide +kernel))) rfl
theorem im_X12_remembers : (.instanceMethod yX12_remembers : Cond) ∈ ALLW := in_all (List.mem_append_right _ (List.mem_of_getElem? (i := 1116) (by decide +kernel))) rfl
theorem cd_X12_remembers : (.code yX12_remembers cX12_remembers 3 none : Cond) ∈ ALLW := in_all (List.mem_append_right _ (List.mem_of_getElem? (i := 1117) (by decide +kernel))) rfl
theorem ml_X12_215 : (.methodLink RX12 215 yX12_stormOf : Cond) ∈ ALLW := in_all (List.mem_append_right _ (List.mem_of_getElem? (i := 1118) (by decide +kernel))) rfl
theorem im_X12_stormOf : (.instanceMethod yX12_stormOf : Cond) ∈ ALLW := in_all (List.mem_append_right _ (List.mem_of_getElem? (i := 1120) (by decide +kernel))) rfl
theorem cd_X12_stormOf : (.code yX12_stormOf cX12_stormOf 2 (some (.int)) : Cond) ∈ ALLW := in_all (List.mem_append_right _ (List.mem_of_getElem? (i := 1121) (by decide +kernel))) rfl
theorem ml_X12_184 : (.methodLink RX12 184 yX12_isSpring : Cond) ∈ ALLW := in_all (List.mem_append_right _ (List.mem_of_getElem? (i := 1122) (by decide +kernel))) rfl
theorem im_X12_isSpring : (.instanceMethod yX12_isSpring : Cond) ∈ ALLW := in_all (List.mem_append_right _ (List.mem_of_getElem? (i := 1124) (by decide +kernel))) rfl
theorem cd_X12_isSpring : (.code yX12_isSpring cX12_isSpring 2 (some (.boolean)) : Cond) ∈ ALLW := in_all (List.mem_append_right _ (List.mem_of_getElem? (i := 1125) (by decide +kernel))) rfl
theorem ml_X12_218 : (.methodLink RX12 218 yX12_goes : Cond) ∈ ALLW := in_all (List.mem_append_right _ (List.mem_of_getElem? (i := 1126) (by decide +kernel))) rfl
theorem im_X12_goes : (.instanceMethod yX12_goes : Cond) ∈ ALLW := in_all (List.mem_append_right _ (List.mem_of_getElem? (i := 1128) (by decide +kernel))) rfl
theorem cd_X12_goes : (.code yX12_goes cX12_goes 6 (some (.int)) : Cond) ∈ ALLW := in_all (List.mem_append_right _ (List.mem_of_getElem? (i := 1129) (by decide +kernel))) rfl
theorem ml_X12_190 : (.methodLink RX12 190 yX12_isOf : Cond) ∈ ALLW := in_all (List.mem_append_right _ (List.mem_of_getElem? (i := 1130) (by decide +kernel))) rfl
theorem im_X12_isOf : (.instanceMethod yX12_isOf : Cond) ∈ ALLW := in_all (List.mem_append_right _ (List.mem_of_getElem? (i := 1132) (by decide +kernel))) rfl
theorem cd_X12_isOf : (.code yX12_isOf cX12_isOf 3 (some (.boolean)) : Cond) ∈ ALLW := in_all (List.mem_append_right _ (List.mem_of_getElem? (i := 1133) (by decide +kernel))) rfl
theorem ml_X12_196 : (.methodLink RX12 196 yX12_dueOf : Cond) ∈ ALLW := in_all (List.mem_append_right _ (List.mem_of_getElem? (i := 1134) (by decide +kernel))) rfl
theorem im_X12_dueOf : (.instanceMethod yX12_dueOf : Cond) ∈ ALLW := in_all (List.mem_append_right _ (List.mem_of_getElem? (i := 1136) (by decide +kernel))) rfl
theorem cd_X12_dueOf : (.code yX12_dueOf cX12_dueOf 5 (some (.int)) : Cond) ∈ ALLW := in_all (List.mem_append_right _ (List.mem_of_getElem? (i := 1137) (by decide +kernel))) rfl
theorem ml_X12_187 : (.methodLink RX12 187 yX12_costs : Cond) ∈ ALLW := in_all (List.mem_append_right _ (List.mem_of_getElem? (i := 1138) (by decide +kernel))) rfl
theorem im_X12_costs : (.instanceMethod yX12_costs : Cond) ∈ ALLW := in_all (List.mem_append_right _ (List.mem_of_getElem? (i := 1140) (by decide +kernel))) rfl
theorem cd_X12_costs : (.code yX12_costs cX12_costs 4 (some (.int)) : Cond) ∈ ALLW := in_all (List.mem_append_right _ (List.mem_of_getElem? (i := 1141) (by decide +kernel))) rfl
theorem ml_X12_199 : (.methodLink RX12 199 yX12_guardedBy : Cond) ∈ ALLW := in_all (List.mem_append_right _ (List.mem_of_getElem? (i := 1142) (by decide +kernel))) rfl
theorem im_X12_guardedBy : (.instanceMethod yX12_guardedBy : Cond) ∈ ALLW := in_all (List.mem_append_right _ (List.mem_of_getElem? (i := 1144) (by decide +kernel))) rfl
theorem cd_X12_guardedBy : (.code yX12_guardedBy cX12_guardedBy 7 (some (.int)) : Cond) ∈ ALLW := in_all (List.mem_append_right _ (List.mem_of_getElem? (i := 1145) (by decide +kernel))) rfl
theorem ml_X12_193 : (.methodLink RX12 193 yX12_holds : Cond) ∈ ALLW := in_all (List.mem_append_right _ (List.mem_of_getElem? (i := 1146) (by decide +kernel))) rfl
theorem im_X12_holds : (.instanceMethod yX12_holds : Cond) ∈ ALLW := in_all (List.mem_append_right _ (List.mem_of_getElem? (i := 1148) (by decide +kernel))) rfl
theorem cd_X12_holds : (.code yX12_holds cX12_holds 4 (some (.int)) : Cond) ∈ ALLW := in_all (List.mem_append_right _ (List.mem_of_getElem? (i := 1149) (by decide +kernel))) rfl
theorem ml_X12_202 : (.methodLink RX12 202 yX12_floods : Cond) ∈ ALLW := in_all (List.mem_append_right _ (List.mem_of_getElem? (i := 1150) (by decide +kernel))) rfl
theorem im_X12_floods : (.instanceMethod yX12_floods : Cond) ∈ ALLW := in_all (List.mem_append_right _ (List.mem_of_getElem? (i := 1152) (by decide +kernel))) rfl
theorem cd_X12_floods : (.code yX12_floods cX12_floods 7 (some (.int)) : Cond) ∈ ALLW := in_all (List.mem_append_right _ (List.mem_of_getElem? (i := 1153) (by decide +kernel))) rfl
theorem ml_X12_206 : (.methodLink RX12 206 yX12_isLost : Cond) ∈ ALLW := in_all (List.mem_append_right _ (List.mem_of_getElem? (i := 1154) (by decide +kernel))) rfl
theorem im_X12_isLost : (.instanceMethod yX12_isLost : Cond) ∈ ALLW := in_all (List.mem_append_right _ (List.mem_of_getElem? (i := 1156) (by decide +kernel))) rfl
theorem cd_X12_isLost : (.code yX12_isLost cX12_isLost 2 (some (.boolean)) : Cond) ∈ ALLW := in_all (List.mem_append_right _ (List.mem_of_getElem? (i := 1157) (by decide +kernel))) rfl
theorem ml_X12_209 : (.methodLink RX12 209 yX12_lesser : Cond) ∈ ALLW := in_all (List.mem_append_right _ (List.mem_of_getElem? (i := 1158) (by decide +kernel))) rfl
theorem st_X12_lesser : (.static yX12_lesser : Cond) ∈ ALLW := in_all (List.mem_append_right _ (List.mem_of_getElem? (i := 1159) (by decide +kernel))) rfl
theorem cd_X12_lesser : (.code yX12_lesser cX12_lesser 2 (some (.int)) : Cond) ∈ ALLW := in_all (List.mem_append_right _ (List.mem_of_getElem? (i := 1160) (by decide +kernel))) rfl
theorem ml_L_69 : (.methodLink RL 69 yX12_undo : Cond) ∈ ALLW := in_all (List.mem_append_right _ (List.mem_of_getElem? (i := 1161) (by decide +kernel))) rfl
theorem im_X12_undo : (.instanceMethod yX12_undo : Cond) ∈ ALLW := in_all (List.mem_append_right _ (List.mem_of_getElem? (i := 1162) (by decide +kernel))) rfl
theorem se_X12_X12_undo_X12_undo : (.selects RX12 yX12_undo yX12_undo : Cond) ∈ ALLW := in_all (List.mem_append_right _ (List.mem_of_getElem? (i := 1163) (by decide +kernel))) rfl
theorem cd_X12_undo : (.code yX12_undo cX12_undo 3 (some (.int)) : Cond) ∈ ALLW := in_all (List.mem_append_right _ (List.mem_of_getElem? (i := 1164) (by decide +kernel))) rfl
theorem ml_L_73 : (.methodLink RL 73 yX12_of : Cond) ∈ ALLW := in_all (List.mem_append_right _ (List.mem_of_getElem? (i := 1165) (by decide +kernel))) rfl
theorem im_X12_of : (.instanceMethod yX12_of : Cond) ∈ ALLW := in_all (List.mem_append_right _ (List.mem_of_getElem? (i := 1166) (by decide +kernel))) rfl
theorem se_X12_X12_of_X12_of : (.selects RX12 yX12_of yX12_of : Cond) ∈ ALLW := in_all (List.mem_append_right _ (List.mem_of_getElem? (i := 1167) (by decide +kernel))) rfl
theorem cd_X12_of : (.code yX12_of cX12_of 3 (some (.int)) : Cond) ∈ ALLW := in_all (List.mem_append_right _ (List.mem_of_getElem? (i := 1168) (by decide +kernel))) rfl
theorem ml_L_77 : (.methodLink RL 77 yX12_about : Cond) ∈ ALLW := in_all (List.mem_append_right _ (List.mem_of_getElem? (i := 1169) (by decide +kernel))) rfl
theorem im_X12_about : (.instanceMethod yX12_about : Cond) ∈ ALLW := in_all (List.mem_append_right _ (List.mem_of_getElem? (i := 1170) (by decide +kernel))) rfl
theorem se_X12_X12_about_X12_about : (.selects RX12 yX12_about yX12_about : Cond) ∈ ALLW := in_all (List.mem_append_right _ (List.mem_of_getElem? (i := 1171) (by decide +kernel))) rfl
theorem cd_X12_about : (.code yX12_about cX12_about 4 (some (.int)) : Cond) ∈ ALLW := in_all (List.mem_append_right _ (List.mem_of_getElem? (i := 1172) (by decide +kernel))) rfl
theorem kl_X12_221 : (.constantLong RX12 221 (4) : Cond) ∈ ALLW := in_all (List.mem_append_right _ (List.mem_of_getElem? (i := 1173) (by decide +kernel))) rfl
theorem ml_L_81 : (.methodLink RL 81 yX12_storm : Cond) ∈ ALLW := in_all (List.mem_append_right _ (List.mem_of_getElem? (i := 1174) (by decide +kernel))) rfl
theorem im_X12_storm : (.instanceMethod yX12_storm : Cond) ∈ ALLW := in_all (List.mem_append_right _ (List.mem_of_getElem? (i := 1175) (by decide +kernel))) rfl
theorem se_X12_X12_storm_X12_storm : (.selects RX12 yX12_storm yX12_storm : Cond) ∈ ALLW := in_all (List.mem_append_right _ (List.mem_of_getElem? (i := 1176) (by decide +kernel))) rfl
theorem cd_X12_storm : (.code yX12_storm cX12_storm 2 (some (.int)) : Cond) ∈ ALLW := in_all (List.mem_append_right _ (List.mem_of_getElem? (i := 1177) (by decide +kernel))) rfl
theorem ml_L_85 : (.methodLink RL 85 yX12_guarded : Cond) ∈ ALLW := in_all (List.mem_append_right _ (List.mem_of_getElem? (i := 1178) (by decide +kernel))) rfl
theorem im_X12_guarded : (.instanceMethod yX12_guarded : Cond) ∈ ALLW := in_all (List.mem_append_right _ (List.mem_of_getElem? (i := 1179) (by decide +kernel))) rfl
theorem se_X12_X12_guarded_X12_guarded : (.selects RX12 yX12_guarded yX12_guarded : Cond) ∈ ALLW := in_all (List.mem_append_right _ (List.mem_of_getElem? (i := 1180) (by decide +kernel))) rfl
theorem cd_X12_guarded : (.code yX12_guarded cX12_guarded 1 (some (.int)) : Cond) ∈ ALLW := in_all (List.mem_append_right _ (List.mem_of_getElem? (i := 1181) (by decide +kernel))) rfl
theorem ml_X12_223 : (.methodLink RX12 223 yX12_guardedNow : Cond) ∈ ALLW := in_all (List.mem_append_right _ (List.mem_of_getElem? (i := 1182) (by decide +kernel))) rfl
theorem im_X12_guardedNow : (.instanceMethod yX12_guardedNow : Cond) ∈ ALLW := in_all (List.mem_append_right _ (List.mem_of_getElem? (i := 1184) (by decide +kernel))) rfl
theorem cd_X12_guardedNow : (.code yX12_guardedNow cX12_guardedNow 1 (some (.int)) : Cond) ∈ ALLW := in_all (List.mem_append_right _ (List.mem_of_getElem? (i := 1185) (by decide +kernel))) rfl
theorem ml_L_89 : (.methodLink RL 89 yX12_wet : Cond) ∈ ALLW := in_all (List.mem_append_right _ (List.mem_of_getElem? (i := 1186) (by decide +kernel))) rfl
theorem im_X12_wet : (.instanceMethod yX12_wet : Cond) ∈ ALLW := in_all (List.mem_append_right _ (List.mem_of_getElem? (i := 1187) (by decide +kernel))) rfl
theorem se_X12_X12_wet_X12_wet : (.selects RX12 yX12_wet yX12_wet : Cond) ∈ ALLW := in_all (List.mem_append_right _ (List.mem_of_getElem? (i := 1188) (by decide +kernel))) rfl
theorem cd_X12_wet : (.code yX12_wet cX12_wet 1 (some (.int)) : Cond) ∈ ALLW := in_all (List.mem_append_right _ (List.mem_of_getElem? (i := 1189) (by decide +kernel))) rfl
theorem ml_X12_226 : (.methodLink RX12 226 yX12_wetNow : Cond) ∈ ALLW := in_all (List.mem_append_right _ (List.mem_of_getElem? (i := 1190) (by decide +kernel))) rfl
theorem im_X12_wetNow : (.instanceMethod yX12_wetNow : Cond) ∈ ALLW := in_all (List.mem_append_right _ (List.mem_of_getElem? (i := 1192) (by decide +kernel))) rfl
theorem cd_X12_wetNow : (.code yX12_wetNow cX12_wetNow 2 (some (.int)) : Cond) ∈ ALLW := in_all (List.mem_append_right _ (List.mem_of_getElem? (i := 1193) (by decide +kernel))) rfl
theorem ml_L_93 : (.methodLink RL 93 yX12_then : Cond) ∈ ALLW := in_all (List.mem_append_right _ (List.mem_of_getElem? (i := 1194) (by decide +kernel))) rfl
theorem im_X12_then : (.instanceMethod yX12_then : Cond) ∈ ALLW := in_all (List.mem_append_right _ (List.mem_of_getElem? (i := 1195) (by decide +kernel))) rfl
theorem se_X12_X12_then_X12_then : (.selects RX12 yX12_then yX12_then : Cond) ∈ ALLW := in_all (List.mem_append_right _ (List.mem_of_getElem? (i := 1196) (by decide +kernel))) rfl
theorem cd_X12_then : (.code yX12_then cX12_then 5 (some (.int)) : Cond) ∈ ALLW := in_all (List.mem_append_right _ (List.mem_of_getElem? (i := 1197) (by decide +kernel))) rfl
theorem kl_X12_232 : (.constantLong RX12 232 (30) : Cond) ∈ ALLW := in_all (List.mem_append_right _ (List.mem_of_getElem? (i := 1198) (by decide +kernel))) rfl
theorem ml_X12_234 : (.methodLink RX12 234 yX12_holdsRow : Cond) ∈ ALLW := in_all (List.mem_append_right _ (List.mem_of_getElem? (i := 1199) (by decide +kernel))) rfl
theorem im_X12_holdsRow : (.instanceMethod yX12_holdsRow : Cond) ∈ ALLW := in_all (List.mem_append_right _ (List.mem_of_getElem? (i := 1201) (by decide +kernel))) rfl
theorem cd_X12_holdsRow : (.code yX12_holdsRow cX12_holdsRow 2 none : Cond) ∈ ALLW := in_all (List.mem_append_right _ (List.mem_of_getElem? (i := 1202) (by decide +kernel))) rfl
theorem ml_X12_237 : (.methodLink RX12 237 yX12_tellsThen : Cond) ∈ ALLW := in_all (List.mem_append_right _ (List.mem_of_getElem? (i := 1203) (by decide +kernel))) rfl
theorem im_X12_tellsThen : (.instanceMethod yX12_tellsThen : Cond) ∈ ALLW := in_all (List.mem_append_right _ (List.mem_of_getElem? (i := 1205) (by decide +kernel))) rfl
theorem cd_X12_tellsThen : (.code yX12_tellsThen cX12_tellsThen 6 (some (.int)) : Cond) ∈ ALLW := in_all (List.mem_append_right _ (List.mem_of_getElem? (i := 1206) (by decide +kernel))) rfl
theorem ml_X12_229 : (.methodLink RX12 229 yX12_worthOf : Cond) ∈ ALLW := in_all (List.mem_append_right _ (List.mem_of_getElem? (i := 1207) (by decide +kernel))) rfl
theorem im_X12_worthOf : (.instanceMethod yX12_worthOf : Cond) ∈ ALLW := in_all (List.mem_append_right _ (List.mem_of_getElem? (i := 1209) (by decide +kernel))) rfl
theorem cd_X12_worthOf : (.code yX12_worthOf cX12_worthOf 4 (some (.int)) : Cond) ∈ ALLW := in_all (List.mem_append_right _ (List.mem_of_getElem? (i := 1210) (by decide +kernel))) rfl
theorem ml_X12_240 : (.methodLink RX12 240 yX12_laysBack : Cond) ∈ ALLW := in_all (List.mem_append_right _ (List.mem_of_getElem? (i := 1211) (by decide +kernel))) rfl
theorem im_X12_laysBack : (.instanceMethod yX12_laysBack : Cond) ∈ ALLW := in_all (List.mem_append_right _ (List.mem_of_getElem? (i := 1213) (by decide +kernel))) rfl
theorem cd_X12_laysBack : (.code yX12_laysBack cX12_laysBack 2 none : Cond) ∈ ALLW := in_all (List.mem_append_right _ (List.mem_of_getElem? (i := 1214) (by decide +kernel))) rfl
theorem ml_L_97 : (.methodLink RL 97 yX12_firstLost : Cond) ∈ ALLW := in_all (List.mem_append_right _ (List.mem_of_getElem? (i := 1215) (by decide +kernel))) rfl
theorem im_X12_firstLost : (.instanceMethod yX12_firstLost : Cond) ∈ ALLW := in_all (List.mem_append_right _ (List.mem_of_getElem? (i := 1216) (by decide +kernel))) rfl
theorem se_X12_X12_firstLost_X12_firstLost : (.selects RX12 yX12_firstLost yX12_firstLost : Cond) ∈ ALLW := in_all (List.mem_append_right _ (List.mem_of_getElem? (i := 1217) (by decide +kernel))) rfl
theorem cd_X12_firstLost : (.code yX12_firstLost cX12_firstLost 4 (some (.int)) : Cond) ∈ ALLW := in_all (List.mem_append_right _ (List.mem_of_getElem? (i := 1218) (by decide +kernel))) rfl
theorem ml_X12_243 : (.methodLink RX12 243 yX12_isSomeLost : Cond) ∈ ALLW := in_all (List.mem_append_right _ (List.mem_of_getElem? (i := 1219) (by decide +kernel))) rfl
theorem im_X12_isSomeLost : (.instanceMethod yX12_isSomeLost : Cond) ∈ ALLW := in_all (List.mem_append_right _ (List.mem_of_getElem? (i := 1221) (by decide +kernel))) rfl
theorem cd_X12_isSomeLost : (.code yX12_isSomeLost cX12_isSomeLost 3 (some (.boolean)) : Cond) ∈ ALLW := in_all (List.mem_append_right _ (List.mem_of_getElem? (i := 1222) (by decide +kernel))) rfl
theorem ml_L_101 : (.methodLink RL 101 yX12_offer : Cond) ∈ ALLW := in_all (List.mem_append_right _ (List.mem_of_getElem? (i := 1223) (by decide +kernel))) rfl
theorem im_X12_offer : (.instanceMethod yX12_offer : Cond) ∈ ALLW := in_all (List.mem_append_right _ (List.mem_of_getElem? (i := 1224) (by decide +kernel))) rfl
theorem se_X12_X12_offer_X12_offer : (.selects RX12 yX12_offer yX12_offer : Cond) ∈ ALLW := in_all (List.mem_append_right _ (List.mem_of_getElem? (i := 1225) (by decide +kernel))) rfl
theorem cd_X12_offer : (.code yX12_offer cX12_offer 10 (some (.int)) : Cond) ∈ ALLW := in_all (List.mem_append_right _ (List.mem_of_getElem? (i := 1226) (by decide +kernel))) rfl
theorem kl_X12_249 : (.constantLong RX12 249 (12) : Cond) ∈ ALLW := in_all (List.mem_append_right _ (List.mem_of_getElem? (i := 1227) (by decide +kernel))) rfl
theorem ml_X12_251 : (.methodLink RX12 251 yX12_floodsIn : Cond) ∈ ALLW := in_all (List.mem_append_right _ (List.mem_of_getElem? (i := 1228) (by decide +kernel))) rfl
theorem im_X12_floodsIn : (.instanceMethod yX12_floodsIn : Cond) ∈ ALLW := in_all (List.mem_append_right _ (List.mem_of_getElem? (i := 1230) (by decide +kernel))) rfl
theorem cd_X12_floodsIn : (.code yX12_floodsIn cX12_floodsIn 4 (some (.int)) : Cond) ∈ ALLW := in_all (List.mem_append_right _ (List.mem_of_getElem? (i := 1231) (by decide +kernel))) rfl
theorem ml_X12_246 : (.methodLink RX12 246 yX12_bits : Cond) ∈ ALLW := in_all (List.mem_append_right _ (List.mem_of_getElem? (i := 1232) (by decide +kernel))) rfl
theorem st_X12_bits : (.static yX12_bits : Cond) ∈ ALLW := in_all (List.mem_append_right _ (List.mem_of_getElem? (i := 1233) (by decide +kernel))) rfl
theorem cd_X12_bits : (.code yX12_bits cX12_bits 3 (some (.int)) : Cond) ∈ ALLW := in_all (List.mem_append_right _ (List.mem_of_getElem? (i := 1234) (by decide +kernel))) rfl
theorem ml_L_106 : (.methodLink RL 106 yX12_cheapest : Cond) ∈ ALLW := in_all (List.mem_append_right _ (List.mem_of_getElem? (i := 1235) (by decide +kernel))) rfl
theorem im_X12_cheapest : (.instanceMethod yX12_cheapest : Cond) ∈ ALLW := in_all (List.mem_append_right _ (List.mem_of_getElem? (i := 1236) (by decide +kernel))) rfl
theorem se_X12_X12_cheapest_X12_cheapest : (.selects RX12 yX12_cheapest yX12_cheapest : Cond) ∈ ALLW := in_all (List.mem_append_right _ (List.mem_of_getElem? (i := 1237) (by decide +kernel))) rfl
theorem cd_X12_cheapest : (.code yX12_cheapest cX12_cheapest 8 (some (.int)) : Cond) ∈ ALLW := in_all (List.mem_append_right _ (List.mem_of_getElem? (i := 1238) (by decide +kernel))) rfl
theorem ml_X12_254 : (.methodLink RX12 254 yX12_areCells : Cond) ∈ ALLW := in_all (List.mem_append_right _ (List.mem_of_getElem? (i := 1239) (by decide +kernel))) rfl
theorem im_X12_areCells : (.instanceMethod yX12_areCells : Cond) ∈ ALLW := in_all (List.mem_append_right _ (List.mem_of_getElem? (i := 1241) (by decide +kernel))) rfl
theorem cd_X12_areCells : (.code yX12_areCells cX12_areCells 2 (some (.boolean)) : Cond) ∈ ALLW := in_all (List.mem_append_right _ (List.mem_of_getElem? (i := 1242) (by decide +kernel))) rfl
theorem ml_L_110 : (.methodLink RL 110 yX12_clashes : Cond) ∈ ALLW := in_all (List.mem_append_right _ (List.mem_of_getElem? (i := 1243) (by decide +kernel))) rfl
theorem im_X12_clashes : (.instanceMethod yX12_clashes : Cond) ∈ ALLW := in_all (List.mem_append_right _ (List.mem_of_getElem? (i := 1244) (by decide +kernel))) rfl
theorem se_X12_X12_clashes_X12_clashes : (.selects RX12 yX12_clashes yX12_clashes : Cond) ∈ ALLW := in_all (List.mem_append_right _ (List.mem_of_getElem? (i := 1245) (by decide +kernel))) rfl
theorem cd_X12_clashes : (.code yX12_clashes cX12_clashes 6 (some (.int)) : Cond) ∈ ALLW := in_all (List.mem_append_right _ (List.mem_of_getElem? (i := 1246) (by decide +kernel))) rfl
theorem ml_X12_257 : (.methodLink RX12 257 yX12_shareCells : Cond) ∈ ALLW := in_all (List.mem_append_right _ (List.mem_of_getElem? (i := 1247) (by decide +kernel))) rfl
theorem im_X12_shareCells : (.instanceMethod yX12_shareCells : Cond) ∈ ALLW := in_all (List.mem_append_right _ (List.mem_of_getElem? (i := 1249) (by decide +kernel))) rfl
theorem cd_X12_shareCells : (.code yX12_shareCells cX12_shareCells 3 (some (.boolean)) : Cond) ∈ ALLW := in_all (List.mem_append_right _ (List.mem_of_getElem? (i := 1250) (by decide +kernel))) rfl
theorem ml_X12_260 : (.methodLink RX12 260 yX12_shareYears : Cond) ∈ ALLW := in_all (List.mem_append_right _ (List.mem_of_getElem? (i := 1251) (by decide +kernel))) rfl
theorem st_X12_shareYears : (.static yX12_shareYears : Cond) ∈ ALLW := in_all (List.mem_append_right _ (List.mem_of_getElem? (i := 1252) (by decide +kernel))) rfl
theorem cd_X12_shareYears : (.code yX12_shareYears cX12_shareYears 4 (some (.boolean)) : Cond) ∈ ALLW := in_all (List.mem_append_right _ (List.mem_of_getElem? (i := 1253) (by decide +kernel))) rfl
theorem ml_L_114 : (.methodLink RL 114 yX12_mend : Cond) ∈ ALLW := in_all (List.mem_append_right _ (List.mem_of_getElem? (i := 1254) (by decide +kernel))) rfl
theorem im_X12_mend : (.instanceMethod yX12_mend : Cond) ∈ ALLW := in_all (List.mem_append_right _ (List.mem_of_getElem? (i := 1255) (by decide +kernel))) rfl
theorem se_X12_X12_mend_X12_mend : (.selects RX12 yX12_mend yX12_mend : Cond) ∈ ALLW := in_all (List.mem_append_right _ (List.mem_of_getElem? (i := 1256) (by decide +kernel))) rfl
theorem cd_X12_mend : (.code yX12_mend cX12_mend 6 (some (.int)) : Cond) ∈ ALLW := in_all (List.mem_append_right _ (List.mem_of_getElem? (i := 1257) (by decide +kernel))) rfl
theorem ml_L_118 : (.methodLink RL 118 yX12_letsIn : Cond) ∈ ALLW := in_all (List.mem_append_right _ (List.mem_of_getElem? (i := 1258) (by decide +kernel))) rfl
theorem im_X12_letsIn : (.instanceMethod yX12_letsIn : Cond) ∈ ALLW := in_all (List.mem_append_right _ (List.mem_of_getElem? (i := 1259) (by decide +kernel))) rfl
theorem se_X12_X12_letsIn_X12_letsIn : (.selects RX12 yX12_letsIn yX12_letsIn : Cond) ∈ ALLW := in_all (List.mem_append_right _ (List.mem_of_getElem? (i := 1260) (by decide +kernel))) rfl
theorem cd_X12_letsIn : (.code yX12_letsIn cX12_letsIn 5 (some (.int)) : Cond) ∈ ALLW := in_all (List.mem_append_right _ (List.mem_of_getElem? (i := 1261) (by decide +kernel))) rfl
theorem ml_X12_264 : (.methodLink RX12 264 yX12_cellsOf : Cond) ∈ ALLW := in_all (List.mem_append_right _ (List.mem_of_getElem? (i := 1262) (by decide +kernel))) rfl
theorem im_X12_cellsOf : (.instanceMethod yX12_cellsOf : Cond) ∈ ALLW := in_all (List.mem_append_right _ (List.mem_of_getElem? (i := 1264) (by decide +kernel))) rfl
theorem cd_X12_cellsOf : (.code yX12_cellsOf cX12_cellsOf 4 (some (.int)) : Cond) ∈ ALLW := in_all (List.mem_append_right _ (List.mem_of_getElem? (i := 1265) (by decide +kernel))) rfl
theorem ml_L_122 : (.methodLink RL 122 yX12_rests : Cond) ∈ ALLW := in_all (List.mem_append_right _ (List.mem_of_getElem? (i := 1266) (by decide +kernel))) rfl
theorem im_X12_rests : (.instanceMethod yX12_rests : Cond) ∈ ALLW := in_all (List.mem_append_right _ (List.mem_of_getElem? (i := 1267) (by decide +kernel))) rfl
theorem se_X12_X12_rests_X12_rests : (.selects RX12 yX12_rests yX12_rests : Cond) ∈ ALLW := in_all (List.mem_append_right _ (List.mem_of_getElem? (i := 1268) (by decide +kernel))) rfl
theorem cd_X12_rests : (.code yX12_rests cX12_rests 7 (some (.int)) : Cond) ∈ ALLW := in_all (List.mem_append_right _ (List.mem_of_getElem? (i := 1269) (by decide +kernel))) rfl
theorem ml_X12_267 : (.methodLink RX12 267 yX12_losesBy : Cond) ∈ ALLW := in_all (List.mem_append_right _ (List.mem_of_getElem? (i := 1270) (by decide +kernel))) rfl
theorem im_X12_losesBy : (.instanceMethod yX12_losesBy : Cond) ∈ ALLW := in_all (List.mem_append_right _ (List.mem_of_getElem? (i := 1272) (by decide +kernel))) rfl
theorem cd_X12_losesBy : (.code yX12_losesBy cX12_losesBy 6 (some (.int)) : Cond) ∈ ALLW := in_all (List.mem_append_right _ (List.mem_of_getElem? (i := 1273) (by decide +kernel))) rfl
theorem ml_L_127 : (.methodLink RL 127 yX12_tide : Cond) ∈ ALLW := in_all (List.mem_append_right _ (List.mem_of_getElem? (i := 1274) (by decide +kernel))) rfl
theorem im_X12_tide : (.instanceMethod yX12_tide : Cond) ∈ ALLW := in_all (List.mem_append_right _ (List.mem_of_getElem? (i := 1275) (by decide +kernel))) rfl
theorem se_X12_X12_tide_X12_tide : (.selects RX12 yX12_tide yX12_tide : Cond) ∈ ALLW := in_all (List.mem_append_right _ (List.mem_of_getElem? (i := 1276) (by decide +kernel))) rfl
theorem cd_X12_tide : (.code yX12_tide cX12_tide 5 (some (.int)) : Cond) ∈ ALLW := in_all (List.mem_append_right _ (List.mem_of_getElem? (i := 1277) (by decide +kernel))) rfl
theorem ml_L_131 : (.methodLink RL 131 yX12_learnt : Cond) ∈ ALLW := in_all (List.mem_append_right _ (List.mem_of_getElem? (i := 1278) (by decide +kernel))) rfl
theorem im_X12_learnt : (.instanceMethod yX12_learnt : Cond) ∈ ALLW := in_all (List.mem_append_right _ (List.mem_of_getElem? (i := 1279) (by decide +kernel))) rfl
theorem se_X12_X12_learnt_X12_learnt : (.selects RX12 yX12_learnt yX12_learnt : Cond) ∈ ALLW := in_all (List.mem_append_right _ (List.mem_of_getElem? (i := 1280) (by decide +kernel))) rfl
theorem cd_X12_learnt : (.code yX12_learnt cX12_learnt 10 (some (.int)) : Cond) ∈ ALLW := in_all (List.mem_append_right _ (List.mem_of_getElem? (i := 1281) (by decide +kernel))) rfl
theorem ml_X12_273 : (.methodLink RX12 273 yX12_wantsBy : Cond) ∈ ALLW := in_all (List.mem_append_right _ (List.mem_of_getElem? (i := 1282) (by decide +kernel))) rfl
theorem im_X12_wantsBy : (.instanceMethod yX12_wantsBy : Cond) ∈ ALLW := in_all (List.mem_append_right _ (List.mem_of_getElem? (i := 1284) (by decide +kernel))) rfl
theorem cd_X12_wantsBy : (.code yX12_wantsBy cX12_wantsBy 7 (some (.int)) : Cond) ∈ ALLW := in_all (List.mem_append_right _ (List.mem_of_getElem? (i := 1285) (by decide +kernel))) rfl
theorem ml_X12_270 : (.methodLink RX12 270 yX12_isWetBy : Cond) ∈ ALLW := in_all (List.mem_append_right _ (List.mem_of_getElem? (i := 1286) (by decide +kernel))) rfl
theorem im_X12_isWetBy : (.instanceMethod yX12_isWetBy : Cond) ∈ ALLW := in_all (List.mem_append_right _ (List.mem_of_getElem? (i := 1288) (by decide +kernel))) rfl
theorem cd_X12_isWetBy : (.code yX12_isWetBy cX12_isWetBy 3 (some (.boolean)) : Cond) ∈ ALLW := in_all (List.mem_append_right _ (List.mem_of_getElem? (i := 1289) (by decide +kernel))) rfl
theorem ml_X12_276 : (.methodLink RX12 276 yX12_many : Cond) ∈ ALLW := in_all (List.mem_append_right _ (List.mem_of_getElem? (i := 1290) (by decide +kernel))) rfl
theorem st_X12_many : (.static yX12_many : Cond) ∈ ALLW := in_all (List.mem_append_right _ (List.mem_of_getElem? (i := 1291) (by decide +kernel))) rfl
theorem cd_X12_many : (.code yX12_many cX12_many 1 (some (.int)) : Cond) ∈ ALLW := in_all (List.mem_append_right _ (List.mem_of_getElem? (i := 1292) (by decide +kernel))) rfl
theorem ml_L_135 : (.methodLink RL 135 yX12_shells : Cond) ∈ ALLW := in_all (List.mem_append_right _ (List.mem_of_getElem? (i := 1293) (by decide +kernel))) rfl
theorem im_X12_shells : (.instanceMethod yX12_shells : Cond) ∈ ALLW := in_all (List.mem_append_right _ (List.mem_of_getElem? (i := 1294) (by decide +kernel))) rfl
theorem se_X12_X12_shells_X12_shells : (.selects RX12 yX12_shells yX12_shells : Cond) ∈ ALLW := in_all (List.mem_append_right _ (List.mem_of_getElem? (i := 1295) (by decide +kernel))) rfl
theorem cd_X12_shells : (.code yX12_shells cX12_shells 8 (some (.int)) : Cond) ∈ ALLW := in_all (List.mem_append_right _ (List.mem_of_getElem? (i := 1296) (by decide +kernel))) rfl
theorem ml_L_139 : (.methodLink RL 139 yX12_vote : Cond) ∈ ALLW := in_all (List.mem_append_right _ (List.mem_of_getElem? (i := 1297) (by decide +kernel))) rfl
theorem im_X12_vote : (.instanceMethod yX12_vote : Cond) ∈ ALLW := in_all (List.mem_append_right _ (List.mem_of_getElem? (i := 1298) (by decide +kernel))) rfl
theorem se_X12_X12_vote_X12_vote : (.selects RX12 yX12_vote yX12_vote : Cond) ∈ ALLW := in_all (List.mem_append_right _ (List.mem_of_getElem? (i := 1299) (by decide +kernel))) rfl
theorem cd_X12_vote : (.code yX12_vote cX12_vote 8 (some (.int)) : Cond) ∈ ALLW := in_all (List.mem_append_right _ (List.mem_of_getElem? (i := 1300) (by decide +kernel))) rfl
theorem ml_L_143 : (.methodLink RL 143 yX12_drawn : Cond) ∈ ALLW := in_all (List.mem_append_right _ (List.mem_of_getElem? (i := 1301) (by decide +kernel))) rfl
theorem im_X12_drawn : (.instanceMethod yX12_drawn : Cond) ∈ ALLW := in_all (List.mem_append_right _ (List.mem_of_getElem? (i := 1302) (by decide +kernel))) rfl
theorem se_X12_X12_drawn_X12_drawn : (.selects RX12 yX12_drawn yX12_drawn : Cond) ∈ ALLW := in_all (List.mem_append_right _ (List.mem_of_getElem? (i := 1303) (by decide +kernel))) rfl
theorem cd_X12_drawn : (.code yX12_drawn cX12_drawn 9 (some (.int)) : Cond) ∈ ALLW := in_all (List.mem_append_right _ (List.mem_of_getElem? (i := 1304) (by decide +kernel))) rfl
theorem kl_X12_278 : (.constantLong RX12 278 (999999) : Cond) ∈ ALLW := in_all (List.mem_append_right _ (List.mem_of_getElem? (i := 1305) (by decide +kernel))) rfl
theorem kl_X12_280 : (.constantLong RX12 280 (1103515245) : Cond) ∈ ALLW := in_all (List.mem_append_right _ (List.mem_of_getElem? (i := 1306) (by decide +kernel))) rfl
theorem kl_X12_282 : (.constantLong RX12 282 (12345) : Cond) ∈ ALLW := in_all (List.mem_append_right _ (List.mem_of_getElem? (i := 1307) (by decide +kernel))) rfl
theorem kl_X12_284 : (.constantLong RX12 284 (2147483648) : Cond) ∈ ALLW := in_all (List.mem_append_right _ (List.mem_of_getElem? (i := 1308) (by decide +kernel))) rfl
theorem kl_X12_286 : (.constantLong RX12 286 (65536) : Cond) ∈ ALLW := in_all (List.mem_append_right _ (List.mem_of_getElem? (i := 1309) (by decide +kernel))) rfl
theorem kl_X12_288 : (.constantLong RX12 288 (16) : Cond) ∈ ALLW := in_all (List.mem_append_right _ (List.mem_of_getElem? (i := 1310) (by decide +kernel))) rfl
theorem ml_L_147 : (.methodLink RL 147 yX12_burn : Cond) ∈ ALLW := in_all (List.mem_append_right _ (List.mem_of_getElem? (i := 1311) (by decide +kernel))) rfl
theorem im_X12_burn : (.instanceMethod yX12_burn : Cond) ∈ ALLW := in_all (List.mem_append_right _ (List.mem_of_getElem? (i := 1312) (by decide +kernel))) rfl
theorem se_X12_X12_burn_X12_burn : (.selects RX12 yX12_burn yX12_burn : Cond) ∈ ALLW := in_all (List.mem_append_right _ (List.mem_of_getElem? (i := 1313) (by decide +kernel))) rfl
theorem cd_X12_burn : (.code yX12_burn cX12_burn 2 (some (.int)) : Cond) ∈ ALLW := in_all (List.mem_append_right _ (List.mem_of_getElem? (i := 1314) (by decide +kernel))) rfl
theorem ml_L_151 : (.methodLink RL 151 yX12_image : Cond) ∈ ALLW := in_all (List.mem_append_right _ (List.mem_of_getElem? (i := 1315) (by decide +kernel))) rfl
theorem im_X12_image : (.instanceMethod yX12_image : Cond) ∈ ALLW := in_all (List.mem_append_right _ (List.mem_of_getElem? (i := 1316) (by decide +kernel))) rfl
theorem se_X12_X12_image_X12_image : (.selects RX12 yX12_image yX12_image : Cond) ∈ ALLW := in_all (List.mem_append_right _ (List.mem_of_getElem? (i := 1317) (by decide +kernel))) rfl
theorem cd_X12_image : (.code yX12_image cX12_image 3 (some (.int)) : Cond) ∈ ALLW := in_all (List.mem_append_right _ (List.mem_of_getElem? (i := 1318) (by decide +kernel))) rfl
theorem ml_L_155 : (.methodLink RL 155 yX12_from : Cond) ∈ ALLW := in_all (List.mem_append_right _ (List.mem_of_getElem? (i := 1319) (by decide +kernel))) rfl
theorem im_X12_from : (.instanceMethod yX12_from : Cond) ∈ ALLW := in_all (List.mem_append_right _ (List.mem_of_getElem? (i := 1320) (by decide +kernel))) rfl
theorem se_X12_X12_from_X12_from : (.selects RX12 yX12_from yX12_from : Cond) ∈ ALLW := in_all (List.mem_append_right _ (List.mem_of_getElem? (i := 1321) (by decide +kernel))) rfl
theorem cd_X12_from : (.code yX12_from cX12_from 3 (some (.int)) : Cond) ∈ ALLW := in_all (List.mem_append_right _ (List.mem_of_getElem? (i := 1322) (by decide +kernel))) rfl
theorem ml_L_159 : (.methodLink RL 159 yX12_status : Cond) ∈ ALLW := in_all (List.mem_append_right _ (List.mem_of_getElem? (i := 1323) (by decide +kernel))) rfl
theorem im_X12_status : (.instanceMethod yX12_status : Cond) ∈ ALLW := in_all (List.mem_append_right _ (List.mem_of_getElem? (i := 1324) (by decide +kernel))) rfl
theorem se_X12_X12_status_X12_status : (.selects RX12 yX12_status yX12_status : Cond) ∈ ALLW := in_all (List.mem_append_right _ (List.mem_of_getElem? (i := 1325) (by decide +kernel))) rfl
theorem cd_X12_status : (.code yX12_status cX12_status 2 (some (.int)) : Cond) ∈ ALLW := in_all (List.mem_append_right _ (List.mem_of_getElem? (i := 1326) (by decide +kernel))) rfl
theorem ml_L_163 : (.methodLink RL 163 yX12_count : Cond) ∈ ALLW := in_all (List.mem_append_right _ (List.mem_of_getElem? (i := 1327) (by decide +kernel))) rfl
theorem im_X12_count : (.instanceMethod yX12_count : Cond) ∈ ALLW := in_all (List.mem_append_right _ (List.mem_of_getElem? (i := 1328) (by decide +kernel))) rfl
theorem se_X12_X12_count_X12_count : (.selects RX12 yX12_count yX12_count : Cond) ∈ ALLW := in_all (List.mem_append_right _ (List.mem_of_getElem? (i := 1329) (by decide +kernel))) rfl
theorem cd_X12_count : (.code yX12_count cX12_count 2 (some (.int)) : Cond) ∈ ALLW := in_all (List.mem_append_right _ (List.mem_of_getElem? (i := 1330) (by decide +kernel))) rfl
theorem ml_X12_290 : (.methodLink RX12 290 yX12_countOf : Cond) ∈ ALLW := in_all (List.mem_append_right _ (List.mem_of_getElem? (i := 1331) (by decide +kernel))) rfl
theorem im_X12_countOf : (.instanceMethod yX12_countOf : Cond) ∈ ALLW := in_all (List.mem_append_right _ (List.mem_of_getElem? (i := 1333) (by decide +kernel))) rfl
theorem cd_X12_countOf : (.code yX12_countOf cX12_countOf 2 (some (.int)) : Cond) ∈ ALLW := in_all (List.mem_append_right _ (List.mem_of_getElem? (i := 1334) (by decide +kernel))) rfl
theorem ml_L_168 : (.methodLink RL 168 yX12_digest : Cond) ∈ ALLW := in_all (List.mem_append_right _ (List.mem_of_getElem? (i := 1335) (by decide +kernel))) rfl
theorem im_X12_digest : (.instanceMethod yX12_digest : Cond) ∈ ALLW := in_all (List.mem_append_right _ (List.mem_of_getElem? (i := 1336) (by decide +kernel))) rfl
theorem se_X12_X12_digest_X12_digest : (.selects RX12 yX12_digest yX12_digest : Cond) ∈ ALLW := in_all (List.mem_append_right _ (List.mem_of_getElem? (i := 1337) (by decide +kernel))) rfl
theorem cd_X12_digest : (.code yX12_digest cX12_digest 4 (some (.long)) : Cond) ∈ ALLW := in_all (List.mem_append_right _ (List.mem_of_getElem? (i := 1338) (by decide +kernel))) rfl
theorem kl_X12_295 : (.constantLong RX12 295 (907) : Cond) ∈ ALLW := in_all (List.mem_append_right _ (List.mem_of_getElem? (i := 1339) (by decide +kernel))) rfl
theorem kl_X12_293 : (.constantLong RX12 293 (31) : Cond) ∈ ALLW := in_all (List.mem_append_right _ (List.mem_of_getElem? (i := 1340) (by decide +kernel))) rfl
theorem ml_X12_297 : (.methodLink RX12 297 yX12_mixed : Cond) ∈ ALLW := in_all (List.mem_append_right _ (List.mem_of_getElem? (i := 1341) (by decide +kernel))) rfl
theorem im_X12_mixed : (.instanceMethod yX12_mixed : Cond) ∈ ALLW := in_all (List.mem_append_right _ (List.mem_of_getElem? (i := 1343) (by decide +kernel))) rfl
theorem cd_X12_mixed : (.code yX12_mixed cX12_mixed 8 (some (.long)) : Cond) ∈ ALLW := in_all (List.mem_append_right _ (List.mem_of_getElem? (i := 1344) (by decide +kernel))) rfl
theorem sm_X0_X0_costs : (.sameMethod "TideTreaty$Arrears" "TideTreaty$Arrears" "costs" "(I)I" : Cond) ∈ ALLW := in_all (List.mem_append_right _ (List.mem_of_getElem? (i := 1345) (by decide +kernel))) rfl
theorem fl_J0_9 : (.fieldLink RJ0 9 "java/lang/String" "value" "[B" : Cond) ∈ ALLW := in_all (List.mem_append_right _ (List.mem_of_getElem? (i := 1351) (by decide +kernel))) rfl
theorem fl_J0_15 : (.fieldLink RJ0 15 "java/lang/String" "coder" "B" : Cond) ∈ ALLW := in_all (List.mem_append_right _ (List.mem_of_getElem? (i := 1352) (by decide +kernel))) rfl
theorem se_X11_X11_told_X11_told : (.selects RX11 yX11_told yX11_told : Cond) ∈ ALLW := in_all (List.mem_append_left _ (List.mem_map.mpr ⟨(⟨"TideTreaty", "told", "(I)I"⟩, 8), List.mem_of_getElem? (i := 0) (by decide +kernel), rfl⟩)) rfl
theorem se_X11_X11_refused_X11_refused : (.selects RX11 yX11_refused yX11_refused : Cond) ∈ ALLW := in_all (List.mem_append_left _ (List.mem_map.mpr ⟨(⟨"TideTreaty", "refused", "(II)I"⟩, 8), List.mem_of_getElem? (i := 1) (by decide +kernel), rfl⟩)) rfl
theorem se_X8_X8_isCellOfIt_X8_isCellOfIt : (.selects RX8 yX8_isCellOfIt yX8_isCellOfIt : Cond) ∈ ALLW := in_all (List.mem_append_left _ (List.mem_map.mpr ⟨(⟨"TideTreaty$State", "isCellOfIt", "(I)Z"⟩, 4), List.mem_of_getElem? (i := 2) (by decide +kernel), rfl⟩)) rfl
theorem se_X11_X11_isTreaty_X11_isTreaty : (.selects RX11 yX11_isTreaty yX11_isTreaty : Cond) ∈ ALLW := in_all (List.mem_append_left _ (List.mem_map.mpr ⟨(⟨"TideTreaty", "isTreaty", "(I)Z"⟩, 8), List.mem_of_getElem? (i := 3) (by decide +kernel), rfl⟩)) rfl
theorem se_X7_X7_skipBlanks_X7_skipBlanks : (.selects RX7 yX7_skipBlanks yX7_skipBlanks : Cond) ∈ ALLW := in_all (List.mem_append_left _ (List.mem_map.mpr ⟨(⟨"TideTreaty$Script", "skipBlanks", "()V"⟩, 7), List.mem_of_getElem? (i := 4) (by decide +kernel), rfl⟩)) rfl
theorem se_X7_X7_takeToken_X7_takeToken : (.selects RX7 yX7_takeToken yX7_takeToken : Cond) ∈ ALLW := in_all (List.mem_append_left _ (List.mem_map.mpr ⟨(⟨"TideTreaty$Script", "takeToken", "(I)Z"⟩, 7), List.mem_of_getElem? (i := 5) (by decide +kernel), rfl⟩)) rfl
theorem se_X7_X7_takeWord_X7_takeWord : (.selects RX7 yX7_takeWord yX7_takeWord : Cond) ∈ ALLW := in_all (List.mem_append_left _ (List.mem_map.mpr ⟨(⟨"TideTreaty$Script", "takeWord", "()Z"⟩, 7), List.mem_of_getElem? (i := 6) (by decide +kernel), rfl⟩)) rfl
theorem se_X7_X7_wordAt_X7_wordAt : (.selects RX7 yX7_wordAt yX7_wordAt : Cond) ∈ ALLW := in_all (List.mem_append_left _ (List.mem_map.mpr ⟨(⟨"TideTreaty$Script", "wordAt", "(II)I"⟩, 7), List.mem_of_getElem? (i := 7) (by decide +kernel), rfl⟩)) rfl
theorem se_X7_X7_spells_X7_spells : (.selects RX7 yX7_spells yX7_spells : Cond) ∈ ALLW := in_all (List.mem_append_left _ (List.mem_map.mpr ⟨(⟨"TideTreaty$Script", "spells", "(Ljava/lang/String;II)Z"⟩, 7), List.mem_of_getElem? (i := 8) (by decide +kernel), rfl⟩)) rfl
theorem se_X7_X7_takeNumber_X7_takeNumber : (.selects RX7 yX7_takeNumber yX7_takeNumber : Cond) ∈ ALLW := in_all (List.mem_append_left _ (List.mem_map.mpr ⟨(⟨"TideTreaty$Script", "takeNumber", "()Z"⟩, 7), List.mem_of_getElem? (i := 9) (by decide +kernel), rfl⟩)) rfl
theorem se_X7_X7_takeEnd_X7_takeEnd : (.selects RX7 yX7_takeEnd yX7_takeEnd : Cond) ∈ ALLW := in_all (List.mem_append_left _ (List.mem_map.mpr ⟨(⟨"TideTreaty$Script", "takeEnd", "()Z"⟩, 7), List.mem_of_getElem? (i := 10) (by decide +kernel), rfl⟩)) rfl
theorem se_X8_X8_forgetOldest_X8_forgetOldest : (.selects RX8 yX8_forgetOldest yX8_forgetOldest : Cond) ∈ ALLW := in_all (List.mem_append_left _ (List.mem_map.mpr ⟨(⟨"TideTreaty$State", "forgetOldest", "()V"⟩, 4), List.mem_of_getElem? (i := 11) (by decide +kernel), rfl⟩)) rfl
theorem se_X2_X2_payDues_X2_payDues : (.selects RX2 yX2_payDues yX2_payDues : Cond) ∈ ALLW := in_all (List.mem_append_left _ (List.mem_map.mpr ⟨(⟨"TideTreaty$Coast", "payDues", "(LTideTreaty$Years;)V"⟩, 13), List.mem_of_getElem? (i := 12) (by decide +kernel), rfl⟩)) rfl
theorem se_X11_X11_isCell_X11_isCell : (.selects RX11 yX11_isCell yX11_isCell : Cond) ∈ ALLW := in_all (List.mem_append_left _ (List.mem_map.mpr ⟨(⟨"TideTreaty", "isCell", "(I)Z"⟩, 8), List.mem_of_getElem? (i := 13) (by decide +kernel), rfl⟩)) rfl
theorem se_X11_X11_wetWithout_X11_wetWithout : (.selects RX11 yX11_wetWithout yX11_wetWithout : Cond) ∈ ALLW := in_all (List.mem_append_left _ (List.mem_map.mpr ⟨(⟨"TideTreaty", "wetWithout", "(I)I"⟩, 8), List.mem_of_getElem? (i := 14) (by decide +kernel), rfl⟩)) rfl
theorem se_X11_X11_runAhead_X11_runAhead : (.selects RX11 yX11_runAhead yX11_runAhead : Cond) ∈ ALLW := in_all (List.mem_append_left _ (List.mem_map.mpr ⟨(⟨"TideTreaty", "runAhead", "(LTideTreaty$Coast;)I"⟩, 8), List.mem_of_getElem? (i := 15) (by decide +kernel), rfl⟩)) rfl
theorem se_X11_X11_outcome_X11_outcome : (.selects RX11 yX11_outcome yX11_outcome : Cond) ∈ ALLW := in_all (List.mem_append_left _ (List.mem_map.mpr ⟨(⟨"TideTreaty", "outcome", "(II)I"⟩, 8), List.mem_of_getElem? (i := 16) (by decide +kernel), rfl⟩)) rfl
theorem se_X11_X11_isKept_X11_isKept : (.selects RX11 yX11_isKept yX11_isKept : Cond) ∈ ALLW := in_all (List.mem_append_left _ (List.mem_map.mpr ⟨(⟨"TideTreaty", "isKept", "(IIII)Z"⟩, 8), List.mem_of_getElem? (i := 17) (by decide +kernel), rfl⟩)) rfl
theorem se_X11_X11_floodings_X11_floodings : (.selects RX11 yX11_floodings yX11_floodings : Cond) ∈ ALLW := in_all (List.mem_append_left _ (List.mem_map.mpr ⟨(⟨"TideTreaty", "floodings", "(LTideTreaty$Coast;I)I"⟩, 8), List.mem_of_getElem? (i := 18) (by decide +kernel), rfl⟩)) rfl
theorem se_X11_X11_isCells_X11_isCells : (.selects RX11 yX11_isCells yX11_isCells : Cond) ∈ ALLW := in_all (List.mem_append_left _ (List.mem_map.mpr ⟨(⟨"TideTreaty", "isCells", "(I)Z"⟩, 8), List.mem_of_getElem? (i := 19) (by decide +kernel), rfl⟩)) rfl
theorem se_X11_X11_staysDry_X11_staysDry : (.selects RX11 yX11_staysDry yX11_staysDry : Cond) ∈ ALLW := in_all (List.mem_append_left _ (List.mem_map.mpr ⟨(⟨"TideTreaty", "staysDry", "(IIII)Z"⟩, 8), List.mem_of_getElem? (i := 20) (by decide +kernel), rfl⟩)) rfl
theorem se_X11_X11_clash_X11_clash : (.selects RX11 yX11_clash yX11_clash : Cond) ∈ ALLW := in_all (List.mem_append_left _ (List.mem_map.mpr ⟨(⟨"TideTreaty", "clash", "(II)Z"⟩, 8), List.mem_of_getElem? (i := 21) (by decide +kernel), rfl⟩)) rfl
theorem se_X11_X11_tillBesideLesser_X11_tillBesideLesser : (.selects RX11 yX11_tillBesideLesser yX11_tillBesideLesser : Cond) ∈ ALLW := in_all (List.mem_append_left _ (List.mem_map.mpr ⟨(⟨"TideTreaty", "tillBesideLesser", "(I)I"⟩, 8), List.mem_of_getElem? (i := 22) (by decide +kernel), rfl⟩)) rfl
theorem se_X11_X11_isRest_X11_isRest : (.selects RX11 yX11_isRest yX11_isRest : Cond) ∈ ALLW := in_all (List.mem_append_left _ (List.mem_map.mpr ⟨(⟨"TideTreaty", "isRest", "(I)Z"⟩, 8), List.mem_of_getElem? (i := 23) (by decide +kernel), rfl⟩)) rfl
theorem se_X11_X11_lossOf_X11_lossOf : (.selects RX11 yX11_lossOf yX11_lossOf : Cond) ∈ ALLW := in_all (List.mem_append_left _ (List.mem_map.mpr ⟨(⟨"TideTreaty", "lossOf", "(II)I"⟩, 8), List.mem_of_getElem? (i := 24) (by decide +kernel), rfl⟩)) rfl
theorem se_X11_X11_fittingWants_X11_fittingWants : (.selects RX11 yX11_fittingWants yX11_fittingWants : Cond) ∈ ALLW := in_all (List.mem_append_left _ (List.mem_map.mpr ⟨(⟨"TideTreaty", "fittingWants", "(I)I"⟩, 8), List.mem_of_getElem? (i := 25) (by decide +kernel), rfl⟩)) rfl
theorem se_X11_X11_wetBy_X11_wetBy : (.selects RX11 yX11_wetBy yX11_wetBy : Cond) ∈ ALLW := in_all (List.mem_append_left _ (List.mem_map.mpr ⟨(⟨"TideTreaty", "wetBy", "(I)I"⟩, 8), List.mem_of_getElem? (i := 26) (by decide +kernel), rfl⟩)) rfl
theorem se_X11_X11_nextToTell_X11_nextToTell : (.selects RX11 yX11_nextToTell yX11_nextToTell : Cond) ∈ ALLW := in_all (List.mem_append_left _ (List.mem_map.mpr ⟨(⟨"TideTreaty", "nextToTell", "(I)I"⟩, 8), List.mem_of_getElem? (i := 27) (by decide +kernel), rfl⟩)) rfl
theorem se_X11_X11_countWetting_X11_countWetting : (.selects RX11 yX11_countWetting yX11_countWetting : Cond) ∈ ALLW := in_all (List.mem_append_left _ (List.mem_map.mpr ⟨(⟨"TideTreaty", "countWetting", "(II)I"⟩, 8), List.mem_of_getElem? (i := 28) (by decide +kernel), rfl⟩)) rfl
theorem se_X11_X11_amount_X11_amount : (.selects RX11 yX11_amount yX11_amount : Cond) ∈ ALLW := in_all (List.mem_append_left _ (List.mem_map.mpr ⟨(⟨"TideTreaty", "amount", "(I)I"⟩, 8), List.mem_of_getElem? (i := 29) (by decide +kernel), rfl⟩)) rfl
theorem se_X12_X12_begins_X12_begins : (.selects RX12 yX12_begins yX12_begins : Cond) ∈ ALLW := in_all (List.mem_append_left _ (List.mem_map.mpr ⟨(⟨"TideTreatyModel", "begins", "(I)V"⟩, 17), List.mem_of_getElem? (i := 30) (by decide +kernel), rfl⟩)) rfl
theorem se_X12_X12_bad_X12_bad : (.selects RX12 yX12_bad yX12_bad : Cond) ∈ ALLW := in_all (List.mem_append_left _ (List.mem_map.mpr ⟨(⟨"TideTreatyModel", "bad", "()I"⟩, 17), List.mem_of_getElem? (i := 31) (by decide +kernel), rfl⟩)) rfl
theorem se_X12_X12_refuses_X12_refuses : (.selects RX12 yX12_refuses yX12_refuses : Cond) ∈ ALLW := in_all (List.mem_append_left _ (List.mem_map.mpr ⟨(⟨"TideTreatyModel", "refuses", "(II)I"⟩, 17), List.mem_of_getElem? (i := 32) (by decide +kernel), rfl⟩)) rfl
theorem se_X12_X12_isCell_X12_isCell : (.selects RX12 yX12_isCell yX12_isCell : Cond) ∈ ALLW := in_all (List.mem_append_left _ (List.mem_map.mpr ⟨(⟨"TideTreatyModel", "isCell", "(I)Z"⟩, 17), List.mem_of_getElem? (i := 33) (by decide +kernel), rfl⟩)) rfl
theorem se_X12_X12_tells_X12_tells : (.selects RX12 yX12_tells yX12_tells : Cond) ∈ ALLW := in_all (List.mem_append_left _ (List.mem_map.mpr ⟨(⟨"TideTreatyModel", "tells", "(II)I"⟩, 17), List.mem_of_getElem? (i := 34) (by decide +kernel), rfl⟩)) rfl
theorem se_X12_X12_full_X12_full : (.selects RX12 yX12_full yX12_full : Cond) ∈ ALLW := in_all (List.mem_append_left _ (List.mem_map.mpr ⟨(⟨"TideTreatyModel", "full", "()I"⟩, 17), List.mem_of_getElem? (i := 35) (by decide +kernel), rfl⟩)) rfl
theorem se_X12_X12_adds_X12_adds : (.selects RX12 yX12_adds yX12_adds : Cond) ∈ ALLW := in_all (List.mem_append_left _ (List.mem_map.mpr ⟨(⟨"TideTreatyModel", "adds", "(IIIIII)V"⟩, 17), List.mem_of_getElem? (i := 36) (by decide +kernel), rfl⟩)) rfl
theorem se_X12_X12_isTreaty_X12_isTreaty : (.selects RX12 yX12_isTreaty yX12_isTreaty : Cond) ∈ ALLW := in_all (List.mem_append_left _ (List.mem_map.mpr ⟨(⟨"TideTreatyModel", "isTreaty", "(I)Z"⟩, 17), List.mem_of_getElem? (i := 37) (by decide +kernel), rfl⟩)) rfl
theorem se_X12_X12_no_X12_no : (.selects RX12 yX12_no yX12_no : Cond) ∈ ALLW := in_all (List.mem_append_left _ (List.mem_map.mpr ⟨(⟨"TideTreatyModel", "no", "()I"⟩, 17), List.mem_of_getElem? (i := 38) (by decide +kernel), rfl⟩)) rfl
theorem se_X12_X12_reads_X12_reads : (.selects RX12 yX12_reads yX12_reads : Cond) ∈ ALLW := in_all (List.mem_append_left _ (List.mem_map.mpr ⟨(⟨"TideTreatyModel", "reads", "()Z"⟩, 17), List.mem_of_getElem? (i := 39) (by decide +kernel), rfl⟩)) rfl
theorem se_X12_X12_scans_X12_scans : (.selects RX12 yX12_scans yX12_scans : Cond) ∈ ALLW := in_all (List.mem_append_left _ (List.mem_map.mpr ⟨(⟨"TideTreatyModel", "scans", "()V"⟩, 17), List.mem_of_getElem? (i := 40) (by decide +kernel), rfl⟩)) rfl
theorem se_X12_X12_isAt_X12_isAt : (.selects RX12 yX12_isAt yX12_isAt : Cond) ∈ ALLW := in_all (List.mem_append_left _ (List.mem_map.mpr ⟨(⟨"TideTreatyModel", "isAt", "(II)Z"⟩, 17), List.mem_of_getElem? (i := 41) (by decide +kernel), rfl⟩)) rfl
theorem se_X12_X12_tellsItem_X12_tellsItem : (.selects RX12 yX12_tellsItem yX12_tellsItem : Cond) ∈ ALLW := in_all (List.mem_append_left _ (List.mem_map.mpr ⟨(⟨"TideTreatyModel", "tellsItem", "(I)Z"⟩, 17), List.mem_of_getElem? (i := 42) (by decide +kernel), rfl⟩)) rfl
theorem se_X12_X12_remembers_X12_remembers : (.selects RX12 yX12_remembers yX12_remembers : Cond) ∈ ALLW := in_all (List.mem_append_left _ (List.mem_map.mpr ⟨(⟨"TideTreatyModel", "remembers", "()V"⟩, 17), List.mem_of_getElem? (i := 43) (by decide +kernel), rfl⟩)) rfl
theorem se_X12_X12_stormOf_X12_stormOf : (.selects RX12 yX12_stormOf yX12_stormOf : Cond) ∈ ALLW := in_all (List.mem_append_left _ (List.mem_map.mpr ⟨(⟨"TideTreatyModel", "stormOf", "(I)I"⟩, 17), List.mem_of_getElem? (i := 44) (by decide +kernel), rfl⟩)) rfl
theorem se_X12_X12_isSpring_X12_isSpring : (.selects RX12 yX12_isSpring yX12_isSpring : Cond) ∈ ALLW := in_all (List.mem_append_left _ (List.mem_map.mpr ⟨(⟨"TideTreatyModel", "isSpring", "(I)Z"⟩, 17), List.mem_of_getElem? (i := 45) (by decide +kernel), rfl⟩)) rfl
theorem se_X12_X12_goes_X12_goes : (.selects RX12 yX12_goes yX12_goes : Cond) ∈ ALLW := in_all (List.mem_append_left _ (List.mem_map.mpr ⟨(⟨"TideTreatyModel", "goes", "(I)I"⟩, 17), List.mem_of_getElem? (i := 46) (by decide +kernel), rfl⟩)) rfl
theorem se_X12_X12_isOf_X12_isOf : (.selects RX12 yX12_isOf yX12_isOf : Cond) ∈ ALLW := in_all (List.mem_append_left _ (List.mem_map.mpr ⟨(⟨"TideTreatyModel", "isOf", "(II)Z"⟩, 17), List.mem_of_getElem? (i := 47) (by decide +kernel), rfl⟩)) rfl
theorem se_X12_X12_dueOf_X12_dueOf : (.selects RX12 yX12_dueOf yX12_dueOf : Cond) ∈ ALLW := in_all (List.mem_append_left _ (List.mem_map.mpr ⟨(⟨"TideTreatyModel", "dueOf", "(II)I"⟩, 17), List.mem_of_getElem? (i := 48) (by decide +kernel), rfl⟩)) rfl
theorem se_X12_X12_costs_X12_costs : (.selects RX12 yX12_costs yX12_costs : Cond) ∈ ALLW := in_all (List.mem_append_left _ (List.mem_map.mpr ⟨(⟨"TideTreatyModel", "costs", "(I)I"⟩, 17), List.mem_of_getElem? (i := 49) (by decide +kernel), rfl⟩)) rfl
theorem se_X12_X12_guardedBy_X12_guardedBy : (.selects RX12 yX12_guardedBy yX12_guardedBy : Cond) ∈ ALLW := in_all (List.mem_append_left _ (List.mem_map.mpr ⟨(⟨"TideTreatyModel", "guardedBy", "(II)I"⟩, 17), List.mem_of_getElem? (i := 50) (by decide +kernel), rfl⟩)) rfl
theorem se_X12_X12_holds_X12_holds : (.selects RX12 yX12_holds yX12_holds : Cond) ∈ ALLW := in_all (List.mem_append_left _ (List.mem_map.mpr ⟨(⟨"TideTreatyModel", "holds", "(II)I"⟩, 17), List.mem_of_getElem? (i := 51) (by decide +kernel), rfl⟩)) rfl
theorem se_X12_X12_floods_X12_floods : (.selects RX12 yX12_floods yX12_floods : Cond) ∈ ALLW := in_all (List.mem_append_left _ (List.mem_map.mpr ⟨(⟨"TideTreatyModel", "floods", "(III)I"⟩, 17), List.mem_of_getElem? (i := 52) (by decide +kernel), rfl⟩)) rfl
theorem se_X12_X12_isLost_X12_isLost : (.selects RX12 yX12_isLost yX12_isLost : Cond) ∈ ALLW := in_all (List.mem_append_left _ (List.mem_map.mpr ⟨(⟨"TideTreatyModel", "isLost", "(I)Z"⟩, 17), List.mem_of_getElem? (i := 53) (by decide +kernel), rfl⟩)) rfl
theorem se_X12_X12_guardedNow_X12_guardedNow : (.selects RX12 yX12_guardedNow yX12_guardedNow : Cond) ∈ ALLW := in_all (List.mem_append_left _ (List.mem_map.mpr ⟨(⟨"TideTreatyModel", "guardedNow", "()I"⟩, 17), List.mem_of_getElem? (i := 54) (by decide +kernel), rfl⟩)) rfl
theorem se_X12_X12_wetNow_X12_wetNow : (.selects RX12 yX12_wetNow yX12_wetNow : Cond) ∈ ALLW := in_all (List.mem_append_left _ (List.mem_map.mpr ⟨(⟨"TideTreatyModel", "wetNow", "(I)I"⟩, 17), List.mem_of_getElem? (i := 55) (by decide +kernel), rfl⟩)) rfl
theorem se_X12_X12_holdsRow_X12_holdsRow : (.selects RX12 yX12_holdsRow yX12_holdsRow : Cond) ∈ ALLW := in_all (List.mem_append_left _ (List.mem_map.mpr ⟨(⟨"TideTreatyModel", "holdsRow", "()V"⟩, 17), List.mem_of_getElem? (i := 56) (by decide +kernel), rfl⟩)) rfl
theorem se_X12_X12_tellsThen_X12_tellsThen : (.selects RX12 yX12_tellsThen yX12_tellsThen : Cond) ∈ ALLW := in_all (List.mem_append_left _ (List.mem_map.mpr ⟨(⟨"TideTreatyModel", "tellsThen", "(II)I"⟩, 17), List.mem_of_getElem? (i := 57) (by decide +kernel), rfl⟩)) rfl
theorem se_X12_X12_worthOf_X12_worthOf : (.selects RX12 yX12_worthOf yX12_worthOf : Cond) ∈ ALLW := in_all (List.mem_append_left _ (List.mem_map.mpr ⟨(⟨"TideTreatyModel", "worthOf", "(I)I"⟩, 17), List.mem_of_getElem? (i := 58) (by decide +kernel), rfl⟩)) rfl
theorem se_X12_X12_laysBack_X12_laysBack : (.selects RX12 yX12_laysBack yX12_laysBack : Cond) ∈ ALLW := in_all (List.mem_append_left _ (List.mem_map.mpr ⟨(⟨"TideTreatyModel", "laysBack", "()V"⟩, 17), List.mem_of_getElem? (i := 59) (by decide +kernel), rfl⟩)) rfl
theorem se_X12_X12_isSomeLost_X12_isSomeLost : (.selects RX12 yX12_isSomeLost yX12_isSomeLost : Cond) ∈ ALLW := in_all (List.mem_append_left _ (List.mem_map.mpr ⟨(⟨"TideTreatyModel", "isSomeLost", "()Z"⟩, 17), List.mem_of_getElem? (i := 60) (by decide +kernel), rfl⟩)) rfl
theorem se_X12_X12_floodsIn_X12_floodsIn : (.selects RX12 yX12_floodsIn yX12_floodsIn : Cond) ∈ ALLW := in_all (List.mem_append_left _ (List.mem_map.mpr ⟨(⟨"TideTreatyModel", "floodsIn", "(I)I"⟩, 17), List.mem_of_getElem? (i := 61) (by decide +kernel), rfl⟩)) rfl
theorem se_X12_X12_areCells_X12_areCells : (.selects RX12 yX12_areCells yX12_areCells : Cond) ∈ ALLW := in_all (List.mem_append_left _ (List.mem_map.mpr ⟨(⟨"TideTreatyModel", "areCells", "(I)Z"⟩, 17), List.mem_of_getElem? (i := 62) (by decide +kernel), rfl⟩)) rfl
theorem se_X12_X12_shareCells_X12_shareCells : (.selects RX12 yX12_shareCells yX12_shareCells : Cond) ∈ ALLW := in_all (List.mem_append_left _ (List.mem_map.mpr ⟨(⟨"TideTreatyModel", "shareCells", "(II)Z"⟩, 17), List.mem_of_getElem? (i := 63) (by decide +kernel), rfl⟩)) rfl
theorem se_X12_X12_cellsOf_X12_cellsOf : (.selects RX12 yX12_cellsOf yX12_cellsOf : Cond) ∈ ALLW := in_all (List.mem_append_left _ (List.mem_map.mpr ⟨(⟨"TideTreatyModel", "cellsOf", "(I)I"⟩, 17), List.mem_of_getElem? (i := 64) (by decide +kernel), rfl⟩)) rfl
theorem se_X12_X12_losesBy_X12_losesBy : (.selects RX12 yX12_losesBy yX12_losesBy : Cond) ∈ ALLW := in_all (List.mem_append_left _ (List.mem_map.mpr ⟨(⟨"TideTreatyModel", "losesBy", "(II)I"⟩, 17), List.mem_of_getElem? (i := 65) (by decide +kernel), rfl⟩)) rfl
theorem se_X12_X12_wantsBy_X12_wantsBy : (.selects RX12 yX12_wantsBy yX12_wantsBy : Cond) ∈ ALLW := in_all (List.mem_append_left _ (List.mem_map.mpr ⟨(⟨"TideTreatyModel", "wantsBy", "(I)I"⟩, 17), List.mem_of_getElem? (i := 66) (by decide +kernel), rfl⟩)) rfl
theorem se_X12_X12_isWetBy_X12_isWetBy : (.selects RX12 yX12_isWetBy yX12_isWetBy : Cond) ∈ ALLW := in_all (List.mem_append_left _ (List.mem_map.mpr ⟨(⟨"TideTreatyModel", "isWetBy", "(II)Z"⟩, 17), List.mem_of_getElem? (i := 67) (by decide +kernel), rfl⟩)) rfl
theorem se_X12_X12_countOf_X12_countOf : (.selects RX12 yX12_countOf yX12_countOf : Cond) ∈ ALLW := in_all (List.mem_append_left _ (List.mem_map.mpr ⟨(⟨"TideTreatyModel", "countOf", "(I)I"⟩, 17), List.mem_of_getElem? (i := 68) (by decide +kernel), rfl⟩)) rfl
theorem se_X12_X12_mixed_X12_mixed : (.selects RX12 yX12_mixed yX12_mixed : Cond) ∈ ALLW := in_all (List.mem_append_left _ (List.mem_map.mpr ⟨(⟨"TideTreatyModel", "mixed", "(JII)J"⟩, 17), List.mem_of_getElem? (i := 69) (by decide +kernel), rfl⟩)) rfl
theorem iwX0 : ∀ w ∈ wsX00, w ∈ ALLW := fun w h => in_all (List.mem_append_right _ (of_decide_eq_true (List.all_eq_true.mp (show (wsX00.all fun w => decide (w ∈ tables_1)) = true by decide +kernel) w h))) (List.all_eq_true.mp (show (wsX00.all goodWord) = true by decide +kernel) w h)
theorem iwX1 : ∀ w ∈ wsX10, w ∈ ALLW := fun w h => in_all (List.mem_append_right _ (of_decide_eq_true (List.all_eq_true.mp (show (wsX10.all fun w => decide (w ∈ tables_1)) = true by decide +kernel) w h))) (List.all_eq_true.mp (show (wsX10.all goodWord) = true by decide +kernel) w h)
theorem iwX2 : ∀ w ∈ wsX20, w ∈ ALLW := fun w h => in_all (List.mem_append_right _ (of_decide_eq_true (List.all_eq_true.mp (show (wsX20.all fun w => decide (w ∈ tables_1)) = true by decide +kernel) w h))) (List.all_eq_true.mp (show (wsX20.all goodWord) = true by decide +kernel) w h)
theorem iwX3 : ∀ w ∈ wsX30, w ∈ ALLW := fun w h => in_all (List.mem_append_right _ (of_decide_eq_true (List.all_eq_true.mp (show (wsX30.all fun w => decide (w ∈ tables_1)) = true by decide +kernel) w h))) (List.all_eq_true.mp (show (wsX30.all goodWord) = true by decide +kernel) w h)
theorem iwX4 : ∀ w ∈ wsX40, w ∈ ALLW := fun w h => in_all (List.mem_append_right _ (of_decide_eq_true (List.all_eq_true.mp (show (wsX40.all fun w => decide (w ∈ tables_1)) = true by decide +kernel) w h))) (List.all_eq_true.mp (show (wsX40.all goodWord) = true by decide +kernel) w h)
theorem iwX5 : ∀ w ∈ wsX50, w ∈ ALLW := fun w h => in_all (List.mem_append_right _ (of_decide_eq_true (List.all_eq_true.mp (show (wsX50.all fun w => decide (w ∈ tables_1)) = true by decide +kernel) w h))) (List.all_eq_true.mp (show (wsX50.all goodWord) = true by decide +kernel) w h)
theorem iwX6 : ∀ w ∈ wsX60, w ∈ ALLW := fun w h => in_all (List.mem_append_right _ (of_decide_eq_true (List.all_eq_true.mp (show (wsX60.all fun w => decide (w ∈ tables_1)) = true by decide +kernel) w h))) (List.all_eq_true.mp (show (wsX60.all goodWord) = true by decide +kernel) w h)
theorem iwX7 : ∀ w ∈ wsX70, w ∈ ALLW := fun w h => in_all (List.mem_append_right _ (of_decide_eq_true (List.all_eq_true.mp (show (wsX70.all fun w => decide (w ∈ tables_1)) = true by decide +kernel) w h))) (List.all_eq_true.mp (show (wsX70.all goodWord) = true by decide +kernel) w h)
theorem iwX8 : ∀ w ∈ wsX80, w ∈ ALLW := fun w h => in_all (List.mem_append_right _ (of_decide_eq_true (List.all_eq_true.mp (show (wsX80.all fun w => decide (w ∈ tables_1)) = true by decide +kernel) w h))) (List.all_eq_true.mp (show (wsX80.all goodWord) = true by decide +kernel) w h)
theorem iwX9 : ∀ w ∈ wsX90, w ∈ ALLW := fun w h => in_all (List.mem_append_right _ (of_decide_eq_true (List.all_eq_true.mp (show (wsX90.all fun w => decide (w ∈ tables_1)) = true by decide +kernel) w h))) (List.all_eq_true.mp (show (wsX90.all goodWord) = true by decide +kernel) w h)
theorem iwX10 : ∀ w ∈ wsX100, w ∈ ALLW := fun w h => in_all (List.mem_append_right _ (of_decide_eq_true (List.all_eq_true.mp (show (wsX100.all fun w => decide (w ∈ tables_1)) = true by decide +kernel) w h))) (List.all_eq_true.mp (show (wsX100.all goodWord) = true by decide +kernel) w h)
theorem iwX11 : ∀ w ∈ wsX110, w ∈ ALLW := fun w h => in_all (List.mem_append_right _ (of_decide_eq_true (List.all_eq_true.mp (show (wsX110.all fun w => decide (w ∈ tables_1)) = true by decide +kernel) w h))) (List.all_eq_true.mp (show (wsX110.all goodWord) = true by decide +kernel) w h)
theorem iwX12 : ∀ w ∈ wsX120, w ∈ ALLW := fun w h => in_all (List.mem_append_right _ (of_decide_eq_true (List.all_eq_true.mp (show (wsX120.all fun w => decide (w ∈ tables_1)) = true by decide +kernel) w h))) (List.all_eq_true.mp (show (wsX120.all goodWord) = true by decide +kernel) w h)
theorem nl_X11_9 : (.methodLinkNest RX11 9 yX6_init RX11 : Cond) ∈ nestW := List.mem_of_getElem? (i := 0) rfl
theorem nl_X11_12 : (.methodLinkNest RX11 12 yX5_init RX11 : Cond) ∈ nestW := List.mem_of_getElem? (i := 1) rfl
theorem nl_X5_1 : (.methodLinkNest RX5 1 yX6_init RX11 : Cond) ∈ nestW := List.mem_of_getElem? (i := 2) rfl
theorem nl_X11_15 : (.methodLinkNest RX11 15 yX1_init RX11 : Cond) ∈ nestW := List.mem_of_getElem? (i := 3) rfl
theorem nl_X1_1 : (.methodLinkNest RX1 1 yX6_init RX11 : Cond) ∈ nestW := List.mem_of_getElem? (i := 4) rfl
theorem nl_X11_18 : (.methodLinkNest RX11 18 yX0_init RX11 : Cond) ∈ nestW := List.mem_of_getElem? (i := 5) rfl
theorem nl_X0_1 : (.methodLinkNest RX0 1 yX6_init RX11 : Cond) ∈ nestW := List.mem_of_getElem? (i := 6) rfl
theorem nl_X11_21 : (.methodLinkNest RX11 21 yX4_init RX11 : Cond) ∈ nestW := List.mem_of_getElem? (i := 7) rfl
theorem nl_X4_1 : (.methodLinkNest RX4 1 yX5_init RX11 : Cond) ∈ nestW := List.mem_of_getElem? (i := 8) rfl
theorem nl_X11_24 : (.methodLinkNest RX11 24 yX3_init RX11 : Cond) ∈ nestW := List.mem_of_getElem? (i := 9) rfl
theorem nl_X3_1 : (.methodLinkNest RX3 1 yX0_init RX11 : Cond) ∈ nestW := List.mem_of_getElem? (i := 10) rfl
theorem nl_X8_11 : (.methodLinkNest RX8 11 yX10_init RX11 : Cond) ∈ nestW := List.mem_of_getElem? (i := 11) rfl
theorem nl_X11_45 : (.methodLinkNest RX11 45 yX7_init RX11 : Cond) ∈ nestW := List.mem_of_getElem? (i := 12) rfl
theorem nl_X8_54 : (.methodLinkNest RX8 54 yX11_within RX11 : Cond) ∈ nestW := List.mem_of_getElem? (i := 13) rfl
theorem nl_X8_62 : (.methodLinkNest RX8 62 yX11_isTown RX11 : Cond) ∈ nestW := List.mem_of_getElem? (i := 14) rfl
theorem nl_de_X6_costs : (.declares yX6_costs : Cond) ∈ nestW := List.mem_of_getElem? (i := 15) rfl
theorem nl_X7_57 : (.methodLinkNest RX7 57 yX11_within RX11 : Cond) ∈ nestW := List.mem_of_getElem? (i := 16) rfl
theorem nl_de_X6_holds : (.declares yX6_holds : Cond) ∈ nestW := List.mem_of_getElem? (i := 17) rfl
theorem nl_ca_X5 : (.castable RX5 RX6 : Cond) ∈ nestW := List.mem_of_getElem? (i := 18) rfl
theorem nl_ca_X1 : (.castable RX1 RX6 : Cond) ∈ nestW := List.mem_of_getElem? (i := 19) rfl
theorem nl_ca_X0 : (.castable RX0 RX6 : Cond) ∈ nestW := List.mem_of_getElem? (i := 20) rfl
theorem nl_ca_X4 : (.castable RX4 RX6 : Cond) ∈ nestW := List.mem_of_getElem? (i := 21) rfl
theorem nl_ca_X3 : (.castable RX3 RX6 : Cond) ∈ nestW := List.mem_of_getElem? (i := 22) rfl
