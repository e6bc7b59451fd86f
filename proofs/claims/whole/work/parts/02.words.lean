theorem tf_Mx_9 : Cond.fieldLink R_Mx 9 "GhostKeys$Matrix" "bounces" "[I" ∈ tbG := tb_at 33 (by decide +kernel) (by decide +kernel)
theorem tf_Mx_15 : Cond.fieldLink R_Mx 15 "GhostKeys$Matrix" "otherwise" "[I" ∈ tbG := tb_at 34 (by decide +kernel) (by decide +kernel)
theorem tf_Mx_18 : Cond.fieldLink R_Mx 18 "GhostKeys$Matrix" "wired" "I" ∈ tbG := tb_at 35 (by decide +kernel) (by decide +kernel)
theorem tf_Mx_22 : Cond.fieldLink R_Mx 22 "GhostKeys$Matrix" "read" "I" ∈ tbG := tb_at 36 (by decide +kernel) (by decide +kernel)
theorem tf_Mx_25 : Cond.fieldLink R_Mx 25 "GhostKeys$Matrix" "seen" "I" ∈ tbG := tb_at 37 (by decide +kernel) (by decide +kernel)
theorem tf_Mx_28 : Cond.fieldLink R_Mx 28 "GhostKeys$Matrix" "believed" "I" ∈ tbG := tb_at 38 (by decide +kernel) (by decide +kernel)
theorem tf_Hi_11 : Cond.fieldLink R_Hi 11 "GhostKeys$History" "events" "[I" ∈ tbG := tb_at 59 (by decide +kernel) (by decide +kernel)
theorem tf_Hi_15 : Cond.fieldLink R_Hi 15 "GhostKeys$History" "next" "I" ∈ tbG := tb_at 60 (by decide +kernel) (by decide +kernel)
theorem tf_Hi_19 : Cond.fieldLink R_Hi 19 "GhostKeys$History" "kept" "I" ∈ tbG := tb_at 61 (by decide +kernel) (by decide +kernel)
theorem tf_Eq_11 : Cond.fieldLink R_Eq 11 "GhostKeys$EventQueue" "events" "[I" ∈ tbG := tb_at 75 (by decide +kernel) (by decide +kernel)
theorem tf_Eq_15 : Cond.fieldLink R_Eq 15 "GhostKeys$EventQueue" "scanOf" "[I" ∈ tbG := tb_at 76 (by decide +kernel) (by decide +kernel)
theorem tf_Eq_18 : Cond.fieldLink R_Eq 18 "GhostKeys$EventQueue" "length" "I" ∈ tbG := tb_at 77 (by decide +kernel) (by decide +kernel)
theorem tf_Km_9 : Cond.fieldLink R_Km 9 "GhostKeys$Keymap" "kinds" "[I" ∈ tbG := tb_at 91 (by decide +kernel) (by decide +kernel)
theorem tf_Km_15 : Cond.fieldLink R_Km 15 "GhostKeys$Keymap" "firsts" "[I" ∈ tbG := tb_at 92 (by decide +kernel) (by decide +kernel)
theorem tf_Km_18 : Cond.fieldLink R_Km 18 "GhostKeys$Keymap" "seconds" "[I" ∈ tbG := tb_at 93 (by decide +kernel) (by decide +kernel)
theorem tf_Km_21 : Cond.fieldLink R_Km 21 "GhostKeys$Keymap" "macroCodes" "[I" ∈ tbG := tb_at 94 (by decide +kernel) (by decide +kernel)
theorem tf_Ch_9 : Cond.fieldLink R_Ch 9 "GhostKeys$Chords" "keys" "[I" ∈ tbG := tb_at 110 (by decide +kernel) (by decide +kernel)
theorem tf_Ch_15 : Cond.fieldLink R_Ch 15 "GhostKeys$Chords" "codes" "[I" ∈ tbG := tb_at 111 (by decide +kernel) (by decide +kernel)
theorem tf_La_9 : Cond.fieldLink R_La 9 "GhostKeys$Layers" "holders" "[I" ∈ tbG := tb_at 123 (by decide +kernel) (by decide +kernel)
theorem tf_La_15 : Cond.fieldLink R_La 15 "GhostKeys$Layers" "locked" "I" ∈ tbG := tb_at 124 (by decide +kernel) (by decide +kernel)
theorem tf_La_19 : Cond.fieldLink R_La 19 "GhostKeys$Layers" "armed" "I" ∈ tbG := tb_at 125 (by decide +kernel) (by decide +kernel)
theorem tf_Ho_9 : Cond.fieldLink R_Ho 9 "GhostKeys$Holds" "codes" "[I" ∈ tbG := tb_at 139 (by decide +kernel) (by decide +kernel)
theorem tf_Ho_15 : Cond.fieldLink R_Ho 15 "GhostKeys$Holds" "mates" "[I" ∈ tbG := tb_at 140 (by decide +kernel) (by decide +kernel)
theorem tf_Re_9 : Cond.fieldLink R_Re 9 "GhostKeys$Reports" "holders" "[I" ∈ tbG := tb_at 152 (by decide +kernel) (by decide +kernel)
theorem tf_Re_15 : Cond.fieldLink R_Re 15 "GhostKeys$Reports" "store" "[J" ∈ tbG := tb_at 153 (by decide +kernel) (by decide +kernel)
theorem tf_Re_35 : Cond.fieldLink R_Re 35 "GhostKeys$Reports" "oldest" "I" ∈ tbG := tb_at 154 (by decide +kernel) (by decide +kernel)
theorem tf_Re_19 : Cond.fieldLink R_Re 19 "GhostKeys$Reports" "stored" "I" ∈ tbG := tb_at 155 (by decide +kernel) (by decide +kernel)
theorem tf_Re_23 : Cond.fieldLink R_Re 23 "GhostKeys$Reports" "late" "Z" ∈ tbG := tb_at 156 (by decide +kernel) (by decide +kernel)
theorem tf_Re_46 : Cond.fieldLink R_Re 46 "GhostKeys$Reports" "lastPut" "J" ∈ tbG := tb_at 157 (by decide +kernel) (by decide +kernel)
theorem tf_Re_38 : Cond.fieldLink R_Re 38 "GhostKeys$Reports" "taken" "J" ∈ tbG := tb_at 158 (by decide +kernel) (by decide +kernel)
theorem tf_G_12 : Cond.fieldLink R_G 12 "GhostKeys" "matrix" "LGhostKeys$Matrix;" ∈ tbG := tb_at 175 (by decide +kernel) (by decide +kernel)
theorem tf_G_19 : Cond.fieldLink R_G 19 "GhostKeys" "past" "LGhostKeys$History;" ∈ tbG := tb_at 176 (by decide +kernel) (by decide +kernel)
theorem tf_G_26 : Cond.fieldLink R_G 26 "GhostKeys" "queue" "LGhostKeys$EventQueue;" ∈ tbG := tb_at 177 (by decide +kernel) (by decide +kernel)
theorem tf_G_33 : Cond.fieldLink R_G 33 "GhostKeys" "keymap" "LGhostKeys$Keymap;" ∈ tbG := tb_at 178 (by decide +kernel) (by decide +kernel)
theorem tf_G_40 : Cond.fieldLink R_G 40 "GhostKeys" "chords" "LGhostKeys$Chords;" ∈ tbG := tb_at 179 (by decide +kernel) (by decide +kernel)
theorem tf_G_47 : Cond.fieldLink R_G 47 "GhostKeys" "layers" "LGhostKeys$Layers;" ∈ tbG := tb_at 180 (by decide +kernel) (by decide +kernel)
theorem tf_G_54 : Cond.fieldLink R_G 54 "GhostKeys" "holds" "LGhostKeys$Holds;" ∈ tbG := tb_at 181 (by decide +kernel) (by decide +kernel)
theorem tf_G_61 : Cond.fieldLink R_G 61 "GhostKeys" "reports" "LGhostKeys$Reports;" ∈ tbG := tb_at 182 (by decide +kernel) (by decide +kernel)
theorem tf_G_65 : Cond.fieldLink R_G 65 "GhostKeys" "now" "I" ∈ tbG := tb_at 183 (by decide +kernel) (by decide +kernel)
theorem tf_Mo_80 : Cond.fieldLink R_Mo 80 "GhostKeysModel" "fault" "I" ∈ tbG := tb_at 684 (by decide +kernel) (by decide +kernel)
theorem tf_Mo_98 : Cond.fieldLink R_Mo 98 "GhostKeysModel" "now" "I" ∈ tbG := tb_at 685 (by decide +kernel) (by decide +kernel)
theorem tf_Mo_7 : Cond.fieldLink R_Mo 7 "GhostKeysModel" "wired" "[Z" ∈ tbG := tb_at 686 (by decide +kernel) (by decide +kernel)
theorem tf_Mo_13 : Cond.fieldLink R_Mo 13 "GhostKeysModel" "bounces" "[I" ∈ tbG := tb_at 687 (by decide +kernel) (by decide +kernel)
theorem tf_Mo_17 : Cond.fieldLink R_Mo 17 "GhostKeysModel" "closed" "[Z" ∈ tbG := tb_at 688 (by decide +kernel) (by decide +kernel)
theorem tf_Mo_20 : Cond.fieldLink R_Mo 20 "GhostKeysModel" "read" "[Z" ∈ tbG := tb_at 689 (by decide +kernel) (by decide +kernel)
theorem tf_Mo_23 : Cond.fieldLink R_Mo 23 "GhostKeysModel" "seen" "[Z" ∈ tbG := tb_at 690 (by decide +kernel) (by decide +kernel)
theorem tf_Mo_26 : Cond.fieldLink R_Mo 26 "GhostKeysModel" "others" "[I" ∈ tbG := tb_at 691 (by decide +kernel) (by decide +kernel)
theorem tf_Mo_29 : Cond.fieldLink R_Mo 29 "GhostKeysModel" "believed" "[Z" ∈ tbG := tb_at 692 (by decide +kernel) (by decide +kernel)
theorem tf_Mo_95 : Cond.fieldLink R_Mo 95 "GhostKeysModel" "queued" "I" ∈ tbG := tb_at 693 (by decide +kernel) (by decide +kernel)
theorem tf_Mo_32 : Cond.fieldLink R_Mo 32 "GhostKeysModel" "events" "[I" ∈ tbG := tb_at 694 (by decide +kernel) (by decide +kernel)
theorem tf_Mo_35 : Cond.fieldLink R_Mo 35 "GhostKeysModel" "scans" "[I" ∈ tbG := tb_at 695 (by decide +kernel) (by decide +kernel)
theorem tf_Mo_101 : Cond.fieldLink R_Mo 101 "GhostKeysModel" "told" "I" ∈ tbG := tb_at 696 (by decide +kernel) (by decide +kernel)
theorem tf_Mo_38 : Cond.fieldLink R_Mo 38 "GhostKeysModel" "latest" "[I" ∈ tbG := tb_at 697 (by decide +kernel) (by decide +kernel)
theorem tf_Mo_41 : Cond.fieldLink R_Mo 41 "GhostKeysModel" "kinds" "[I" ∈ tbG := tb_at 698 (by decide +kernel) (by decide +kernel)
theorem tf_Mo_44 : Cond.fieldLink R_Mo 44 "GhostKeysModel" "firsts" "[I" ∈ tbG := tb_at 699 (by decide +kernel) (by decide +kernel)
theorem tf_Mo_47 : Cond.fieldLink R_Mo 47 "GhostKeysModel" "seconds" "[I" ∈ tbG := tb_at 700 (by decide +kernel) (by decide +kernel)
theorem tf_Mo_50 : Cond.fieldLink R_Mo 50 "GhostKeysModel" "macros" "[I" ∈ tbG := tb_at 701 (by decide +kernel) (by decide +kernel)
theorem tf_Mo_53 : Cond.fieldLink R_Mo 53 "GhostKeysModel" "chordKeys" "[I" ∈ tbG := tb_at 702 (by decide +kernel) (by decide +kernel)
theorem tf_Mo_56 : Cond.fieldLink R_Mo 56 "GhostKeysModel" "chordCodes" "[I" ∈ tbG := tb_at 703 (by decide +kernel) (by decide +kernel)
theorem tf_Mo_59 : Cond.fieldLink R_Mo 59 "GhostKeysModel" "locked" "[Z" ∈ tbG := tb_at 704 (by decide +kernel) (by decide +kernel)
theorem tf_Mo_62 : Cond.fieldLink R_Mo 62 "GhostKeysModel" "armed" "[Z" ∈ tbG := tb_at 705 (by decide +kernel) (by decide +kernel)
theorem tf_Mo_65 : Cond.fieldLink R_Mo 65 "GhostKeysModel" "began" "[I" ∈ tbG := tb_at 706 (by decide +kernel) (by decide +kernel)
theorem tf_Mo_68 : Cond.fieldLink R_Mo 68 "GhostKeysModel" "beganWhat" "[I" ∈ tbG := tb_at 707 (by decide +kernel) (by decide +kernel)
theorem tf_Mo_71 : Cond.fieldLink R_Mo 71 "GhostKeysModel" "beganChord" "[I" ∈ tbG := tb_at 708 (by decide +kernel) (by decide +kernel)
theorem tf_Mo_137 : Cond.fieldLink R_Mo 137 "GhostKeysModel" "chords" "I" ∈ tbG := tb_at 709 (by decide +kernel) (by decide +kernel)
theorem tf_Mo_74 : Cond.fieldLink R_Mo 74 "GhostKeysModel" "down" "[I" ∈ tbG := tb_at 710 (by decide +kernel) (by decide +kernel)
theorem tf_Mo_77 : Cond.fieldLink R_Mo 77 "GhostKeysModel" "reports" "[I" ∈ tbG := tb_at 711 (by decide +kernel) (by decide +kernel)
theorem tf_Mo_114 : Cond.fieldLink R_Mo 114 "GhostKeysModel" "stored" "I" ∈ tbG := tb_at 712 (by decide +kernel) (by decide +kernel)
theorem tf_Mo_117 : Cond.fieldLink R_Mo 117 "GhostKeysModel" "late" "Z" ∈ tbG := tb_at 713 (by decide +kernel) (by decide +kernel)
theorem tm_Lw_49 : Cond.methodLink R_Lw 49 y_G_init ∈ tbG := tb_at 21 (by decide +kernel) (by decide +kernel)
theorem tm_G_3 : Cond.methodLink R_G 3 ⟨"java/lang/Object", "<init>", "()V"⟩ ∈ tbG := tb_at 24 (by decide +kernel) (by decide +kernel)
theorem tm_Mx_3 : Cond.methodLink R_Mx 3 ⟨"java/lang/Object", "<init>", "()V"⟩ ∈ tbG := tb_at 32 (by decide +kernel) (by decide +kernel)
theorem tm_Hi_3 : Cond.methodLink R_Hi 3 ⟨"java/lang/Object", "<init>", "()V"⟩ ∈ tbG := tb_at 58 (by decide +kernel) (by decide +kernel)
theorem tm_Eq_3 : Cond.methodLink R_Eq 3 ⟨"java/lang/Object", "<init>", "()V"⟩ ∈ tbG := tb_at 74 (by decide +kernel) (by decide +kernel)
theorem tm_Km_3 : Cond.methodLink R_Km 3 ⟨"java/lang/Object", "<init>", "()V"⟩ ∈ tbG := tb_at 90 (by decide +kernel) (by decide +kernel)
theorem tm_Ch_3 : Cond.methodLink R_Ch 3 ⟨"java/lang/Object", "<init>", "()V"⟩ ∈ tbG := tb_at 109 (by decide +kernel) (by decide +kernel)
theorem tm_La_3 : Cond.methodLink R_La 3 ⟨"java/lang/Object", "<init>", "()V"⟩ ∈ tbG := tb_at 122 (by decide +kernel) (by decide +kernel)
theorem tm_Ho_3 : Cond.methodLink R_Ho 3 ⟨"java/lang/Object", "<init>", "()V"⟩ ∈ tbG := tb_at 138 (by decide +kernel) (by decide +kernel)
theorem tm_Re_3 : Cond.methodLink R_Re 3 ⟨"java/lang/Object", "<init>", "()V"⟩ ∈ tbG := tb_at 151 (by decide +kernel) (by decide +kernel)
theorem tm_Lw_67 : Cond.methodLink R_Lw 67 y_G_scan ∈ tbG := tb_at 203 (by decide +kernel) (by decide +kernel)
theorem tm_G_88 : Cond.methodLink R_G 88 y_G_runScan ∈ tbG := tb_at 207 (by decide +kernel) (by decide +kernel)
theorem tm_G_185 : Cond.methodLink R_G 185 y_Mx_look ∈ tbG := tb_at 211 (by decide +kernel) (by decide +kernel)
theorem tm_Mx_31 : Cond.methodLink R_Mx 31 y_Mx_closedContacts ∈ tbG := tb_at 215 (by decide +kernel) (by decide +kernel)
theorem tm_Mx_35 : Cond.methodLink R_Mx 35 y_Mx_isFourthCorner ∈ tbG := tb_at 219 (by decide +kernel) (by decide +kernel)
theorem tm_Mx_43 : Cond.methodLink R_Mx 43 y_Mx_rowOf ∈ tbG := tb_at 222 (by decide +kernel) (by decide +kernel)
theorem tm_Mx_39 : Cond.methodLink R_Mx 39 y_Mx_watch ∈ tbG := tb_at 225 (by decide +kernel) (by decide +kernel)
theorem tm_G_188 : Cond.methodLink R_G 188 y_G_bringEvents ∈ tbG := tb_at 229 (by decide +kernel) (by decide +kernel)
theorem tm_G_194 : Cond.methodLink R_G 194 y_Mx_believe ∈ tbG := tb_at 233 (by decide +kernel) (by decide +kernel)
theorem tm_G_197 : Cond.methodLink R_G 197 y_Hi_add ∈ tbG := tb_at 237 (by decide +kernel) (by decide +kernel)
theorem tm_Hi_22 : Cond.methodLink R_Hi 22 Lib.Math.min.name ∈ tbG := tb_at 241 (by decide +kernel) (by decide +kernel)
theorem tm_G_200 : Cond.methodLink R_G 200 y_Eq_add ∈ tbG := tb_at 244 (by decide +kernel) (by decide +kernel)
theorem tm_G_191 : Cond.methodLink R_G 191 y_G_takeFirst ∈ tbG := tb_at 248 (by decide +kernel) (by decide +kernel)
theorem tm_G_167 : Cond.methodLink R_G 167 y_Eq_length ∈ tbG := tb_at 252 (by decide +kernel) (by decide +kernel)
theorem tm_G_202 : Cond.methodLink R_G 202 y_Eq_isPress ∈ tbG := tb_at 256 (by decide +kernel) (by decide +kernel)
theorem tm_G_205 : Cond.methodLink R_G 205 y_G_takeRelease ∈ tbG := tb_at 260 (by decide +kernel) (by decide +kernel)
theorem tm_G_224 : Cond.methodLink R_G 224 y_Eq_keyAt ∈ tbG := tb_at 264 (by decide +kernel) (by decide +kernel)
theorem tm_G_227 : Cond.methodLink R_G 227 y_Eq_removeFirst ∈ tbG := tb_at 268 (by decide +kernel) (by decide +kernel)
theorem tm_Eq_22 : Cond.methodLink R_Eq 22 Lib.Math.max.name ∈ tbG := tb_at 272 (by decide +kernel) (by decide +kernel)
theorem tm_G_230 : Cond.methodLink R_G 230 y_La_letGo ∈ tbG := tb_at 275 (by decide +kernel) (by decide +kernel)
theorem tm_G_233 : Cond.methodLink R_G 233 y_Ho_end ∈ tbG := tb_at 279 (by decide +kernel) (by decide +kernel)
theorem tm_Ho_18 : Cond.methodLink R_Ho 18 y_Ho_begin ∈ tbG := tb_at 283 (by decide +kernel) (by decide +kernel)
theorem tm_G_236 : Cond.methodLink R_G 236 y_Re_letGo ∈ tbG := tb_at 287 (by decide +kernel) (by decide +kernel)
theorem tm_Re_27 : Cond.methodLink R_Re 27 y_Re_packed ∈ tbG := tb_at 291 (by decide +kernel) (by decide +kernel)
theorem tm_Re_31 : Cond.methodLink R_Re 31 y_Re_putIfOther ∈ tbG := tb_at 295 (by decide +kernel) (by decide +kernel)
theorem tm_G_208 : Cond.methodLink R_G 208 y_Eq_rowLength ∈ tbG := tb_at 299 (by decide +kernel) (by decide +kernel)
theorem tm_Eq_28 : Cond.methodLink R_Eq 28 y_Eq_isPress ∈ tbG := tb_at 303 (by decide +kernel) (by decide +kernel)
theorem tm_G_211 : Cond.methodLink R_G 211 y_G_waitsForChord ∈ tbG := tb_at 304 (by decide +kernel) (by decide +kernel)
theorem tm_G_237 : Cond.methodLink R_G 237 y_Eq_scanAt ∈ tbG := tb_at 308 (by decide +kernel) (by decide +kernel)
theorem tm_G_240 : Cond.methodLink R_G 240 y_Eq_firstKeys ∈ tbG := tb_at 312 (by decide +kernel) (by decide +kernel)
theorem tm_Eq_32 : Cond.methodLink R_Eq 32 y_Eq_keyAt ∈ tbG := tb_at 316 (by decide +kernel) (by decide +kernel)
theorem tm_G_243 : Cond.methodLink R_G 243 y_Ch_canGrowFrom ∈ tbG := tb_at 317 (by decide +kernel) (by decide +kernel)
theorem tm_G_214 : Cond.methodLink R_G 214 y_Ch_longestAtStart ∈ tbG := tb_at 321 (by decide +kernel) (by decide +kernel)
theorem tm_Ch_18 : Cond.methodLink R_Ch 18 y_Ji_bitCount ∈ tbG := tb_at 325 (by decide +kernel) (by decide +kernel)
theorem tm_Ch_24 : Cond.methodLink R_Ch 24 y_Eq_firstKeys ∈ tbG := tb_at 331 (by decide +kernel) (by decide +kernel)
theorem tm_G_218 : Cond.methodLink R_G 218 y_G_takeChord ∈ tbG := tb_at 332 (by decide +kernel) (by decide +kernel)
theorem tm_G_246 : Cond.methodLink R_G 246 y_Ch_keysOf ∈ tbG := tb_at 336 (by decide +kernel) (by decide +kernel)
theorem tm_G_249 : Cond.methodLink R_G 249 y_Ch_codeOf ∈ tbG := tb_at 340 (by decide +kernel) (by decide +kernel)
theorem tm_G_177 : Cond.methodLink R_G 177 y_Ji_bitCount ∈ tbG := tb_at 344 (by decide +kernel) (by decide +kernel)
theorem tm_G_252 : Cond.methodLink R_G 252 y_Ho_begin ∈ tbG := tb_at 345 (by decide +kernel) (by decide +kernel)
theorem tm_G_255 : Cond.methodLink R_G 255 y_Re_goDown ∈ tbG := tb_at 346 (by decide +kernel) (by decide +kernel)
theorem tm_G_258 : Cond.methodLink R_G 258 y_La_disarm ∈ tbG := tb_at 350 (by decide +kernel) (by decide +kernel)
theorem tm_G_221 : Cond.methodLink R_G 221 y_G_takeByAction ∈ tbG := tb_at 354 (by decide +kernel) (by decide +kernel)
theorem tm_G_158 : Cond.methodLink R_G 158 y_Km_topLayer ∈ tbG := tb_at 358 (by decide +kernel) (by decide +kernel)
theorem tm_Km_24 : Cond.methodLink R_Km 24 y_Km_kind ∈ tbG := tb_at 362 (by decide +kernel) (by decide +kernel)
theorem tm_Km_28 : Cond.methodLink R_Km 28 y_La_isOn ∈ tbG := tb_at 366 (by decide +kernel) (by decide +kernel)
theorem tm_G_261 : Cond.methodLink R_G 261 y_Km_kind ∈ tbG := tb_at 370 (by decide +kernel) (by decide +kernel)
theorem tm_G_265 : Cond.methodLink R_G 265 y_G_tellTap ∈ tbG := tb_at 371 (by decide +kernel) (by decide +kernel)
theorem tm_G_286 : Cond.methodLink R_G 286 y_Eq_tellTap ∈ tbG := tb_at 375 (by decide +kernel) (by decide +kernel)
theorem tm_G_268 : Cond.methodLink R_G 268 y_Km_a ∈ tbG := tb_at 379 (by decide +kernel) (by decide +kernel)
theorem tm_G_271 : Cond.methodLink R_G 271 y_La_hold ∈ tbG := tb_at 383 (by decide +kernel) (by decide +kernel)
theorem tm_G_274 : Cond.methodLink R_G 274 y_La_turnLock ∈ tbG := tb_at 387 (by decide +kernel) (by decide +kernel)
theorem tm_G_277 : Cond.methodLink R_G 277 y_La_arm ∈ tbG := tb_at 391 (by decide +kernel) (by decide +kernel)
theorem tm_G_280 : Cond.methodLink R_G 280 y_G_actTap ∈ tbG := tb_at 395 (by decide +kernel) (by decide +kernel)
theorem tm_G_287 : Cond.methodLink R_G 287 y_Km_b ∈ tbG := tb_at 399 (by decide +kernel) (by decide +kernel)
theorem tm_G_283 : Cond.methodLink R_G 283 y_G_playMacro ∈ tbG := tb_at 403 (by decide +kernel) (by decide +kernel)
theorem tm_G_290 : Cond.methodLink R_G 290 y_Km_macroCode ∈ tbG := tb_at 407 (by decide +kernel) (by decide +kernel)
theorem tm_Lw_75 : Cond.methodLink R_Lw 75 y_G_poll ∈ tbG := tb_at 411 (by decide +kernel) (by decide +kernel)
theorem tm_G_94 : Cond.methodLink R_G 94 y_Re_takeOldest ∈ tbG := tb_at 415 (by decide +kernel) (by decide +kernel)
theorem tm_Lw_80 : Cond.methodLink R_Lw 80 y_G_report ∈ tbG := tb_at 419 (by decide +kernel) (by decide +kernel)
theorem tm_G_98 : Cond.methodLink R_G 98 y_Re_partOfTaken ∈ tbG := tb_at 423 (by decide +kernel) (by decide +kernel)
theorem tm_Lw_84 : Cond.methodLink R_Lw 84 y_G_waiting ∈ tbG := tb_at 429 (by decide +kernel) (by decide +kernel)
theorem tm_G_102 : Cond.methodLink R_G 102 y_Re_stored ∈ tbG := tb_at 433 (by decide +kernel) (by decide +kernel)
theorem tm_Lw_88 : Cond.methodLink R_Lw 88 y_G_late ∈ tbG := tb_at 437 (by decide +kernel) (by decide +kernel)
theorem tm_G_105 : Cond.methodLink R_G 105 y_Re_isLate ∈ tbG := tb_at 441 (by decide +kernel) (by decide +kernel)
theorem tm_Lw_113 : Cond.methodLink R_Lw 113 y_G_queued ∈ tbG := tb_at 445 (by decide +kernel) (by decide +kernel)
theorem tm_Lw_117 : Cond.methodLink R_Lw 117 y_G_history ∈ tbG := tb_at 449 (by decide +kernel) (by decide +kernel)
theorem tm_G_170 : Cond.methodLink R_G 170 y_Hi_latest ∈ tbG := tb_at 453 (by decide +kernel) (by decide +kernel)
theorem tm_Lw_53 : Cond.methodLink R_Lw 53 y_Lw_wire ∈ tbG := tb_at 457 (by decide +kernel) (by decide +kernel)
theorem tm_Lw_7 : Cond.methodLink R_Lw 7 y_G_wire ∈ tbG := tb_at 461 (by decide +kernel) (by decide +kernel)
theorem tm_G_69 : Cond.methodLink R_G 69 y_G_requireKey ∈ tbG := tb_at 465 (by decide +kernel) (by decide +kernel)
theorem tm_G_125 : Cond.methodLink R_G 125 ⟨"java/lang/IndexOutOfBoundsException", "<init>", "(Ljava/lang/String;)V"⟩ ∈ tbG := tb_at 510 (by decide +kernel) (by decide +kernel)
theorem tm_G_73 : Cond.methodLink R_G 73 y_Mx_setWired ∈ tbG := tb_at 536 (by decide +kernel) (by decide +kernel)
theorem tm_Lw_63 : Cond.methodLink R_Lw 63 y_Lw_bounce ∈ tbG := tb_at 540 (by decide +kernel) (by decide +kernel)
theorem tm_Lw_15 : Cond.methodLink R_Lw 15 y_G_bounce ∈ tbG := tb_at 544 (by decide +kernel) (by decide +kernel)
theorem tm_G_81 : Cond.methodLink R_G 81 ⟨"java/lang/IllegalArgumentException", "<init>", "(Ljava/lang/String;)V"⟩ ∈ tbG := tb_at 558 (by decide +kernel) (by decide +kernel)
theorem tm_G_84 : Cond.methodLink R_G 84 y_Mx_setBounce ∈ tbG := tb_at 564 (by decide +kernel) (by decide +kernel)
theorem tm_Lw_71 : Cond.methodLink R_Lw 71 y_Lw_scans ∈ tbG := tb_at 568 (by decide +kernel) (by decide +kernel)
theorem tm_Lw_21 : Cond.methodLink R_Lw 21 y_G_scans ∈ tbG := tb_at 571 (by decide +kernel) (by decide +kernel)
theorem tm_Lw_92 : Cond.methodLink R_Lw 92 y_Lw_map ∈ tbG := tb_at 576 (by decide +kernel) (by decide +kernel)
theorem tm_Lw_25 : Cond.methodLink R_Lw 25 y_G_map ∈ tbG := tb_at 579 (by decide +kernel) (by decide +kernel)
theorem tm_G_108 : Cond.methodLink R_G 108 y_G_requireLayer ∈ tbG := tb_at 583 (by decide +kernel) (by decide +kernel)
theorem tm_G_111 : Cond.methodLink R_G 111 y_G_isAction ∈ tbG := tb_at 587 (by decide +kernel) (by decide +kernel)
theorem tm_G_126 : Cond.methodLink R_G 126 y_G_isCode ∈ tbG := tb_at 590 (by decide +kernel) (by decide +kernel)
theorem tm_G_182 : Cond.methodLink R_G 182 y_G_isUpperLayer ∈ tbG := tb_at 593 (by decide +kernel) (by decide +kernel)
theorem tm_G_117 : Cond.methodLink R_G 117 y_Km_setAction ∈ tbG := tb_at 597 (by decide +kernel) (by decide +kernel)
theorem tm_Lw_96 : Cond.methodLink R_Lw 96 y_Lw_macro ∈ tbG := tb_at 601 (by decide +kernel) (by decide +kernel)
theorem tm_Lw_29 : Cond.methodLink R_Lw 29 y_G_macro ∈ tbG := tb_at 604 (by decide +kernel) (by decide +kernel)
theorem tm_G_132 : Cond.methodLink R_G 132 y_Km_setMacroCode ∈ tbG := tb_at 610 (by decide +kernel) (by decide +kernel)
theorem tm_Lw_100 : Cond.methodLink R_Lw 100 y_Lw_chord ∈ tbG := tb_at 614 (by decide +kernel) (by decide +kernel)
theorem tm_Lw_33 : Cond.methodLink R_Lw 33 y_G_chord ∈ tbG := tb_at 618 (by decide +kernel) (by decide +kernel)
theorem tm_G_138 : Cond.methodLink R_G 138 y_G_isChord ∈ tbG := tb_at 623 (by decide +kernel) (by decide +kernel)
theorem tm_G_143 : Cond.methodLink R_G 143 y_Ch_hasElsewhere ∈ tbG := tb_at 627 (by decide +kernel) (by decide +kernel)
theorem tm_G_151 : Cond.methodLink R_G 151 ⟨"java/lang/IllegalStateException", "<init>", "(Ljava/lang/String;)V"⟩ ∈ tbG := tb_at 641 (by decide +kernel) (by decide +kernel)
theorem tm_G_152 : Cond.methodLink R_G 152 y_Ch_setChord ∈ tbG := tb_at 647 (by decide +kernel) (by decide +kernel)
theorem tm_Lw_103 : Cond.methodLink R_Lw 103 y_Lw_on ∈ tbG := tb_at 651 (by decide +kernel) (by decide +kernel)
theorem tm_Lw_38 : Cond.methodLink R_Lw 38 y_G_on ∈ tbG := tb_at 654 (by decide +kernel) (by decide +kernel)
theorem tm_G_155 : Cond.methodLink R_G 155 y_La_isOn ∈ tbG := tb_at 658 (by decide +kernel) (by decide +kernel)
theorem tm_Lw_106 : Cond.methodLink R_Lw 106 y_Lw_top ∈ tbG := tb_at 659 (by decide +kernel) (by decide +kernel)
theorem tm_Lw_42 : Cond.methodLink R_Lw 42 y_G_top ∈ tbG := tb_at 662 (by decide +kernel) (by decide +kernel)
theorem tm_Lw_109 : Cond.methodLink R_Lw 109 y_Lw_key ∈ tbG := tb_at 666 (by decide +kernel) (by decide +kernel)
theorem tm_Lw_45 : Cond.methodLink R_Lw 45 y_G_key ∈ tbG := tb_at 669 (by decide +kernel) (by decide +kernel)
theorem tm_G_164 : Cond.methodLink R_G 164 y_Mx_keysThatAre ∈ tbG := tb_at 674 (by decide +kernel) (by decide +kernel)
theorem tm_Lw_52 : Cond.methodLink R_Lw 52 y_Mo_init ∈ tbG := tb_at 680 (by decide +kernel) (by decide +kernel)
theorem tm_Mo_1 : Cond.methodLink R_Mo 1 ⟨"java/lang/Object", "<init>", "()V"⟩ ∈ tbG := tb_at 683 (by decide +kernel) (by decide +kernel)
theorem tm_Lw_59 : Cond.methodLink R_Lw 59 y_Mo_thrown ∈ tbG := tb_at 776 (by decide +kernel) (by decide +kernel)
theorem tm_Lw_58 : Cond.methodLink R_Lw 58 y_Mo_wire ∈ tbG := tb_at 780 (by decide +kernel) (by decide +kernel)
theorem tm_Mo_84 : Cond.methodLink R_Mo 84 y_Mo_isKey ∈ tbG := tb_at 784 (by decide +kernel) (by decide +kernel)
theorem tm_Mo_88 : Cond.methodLink R_Mo 88 y_Mo_refused ∈ tbG := tb_at 787 (by decide +kernel) (by decide +kernel)
theorem tm_Lw_66 : Cond.methodLink R_Lw 66 y_Mo_bounce ∈ tbG := tb_at 791 (by decide +kernel) (by decide +kernel)
theorem tm_Lw_70 : Cond.methodLink R_Lw 70 y_Mo_scan ∈ tbG := tb_at 795 (by decide +kernel) (by decide +kernel)
theorem tm_Mo_193 : Cond.methodLink R_Mo 193 y_Mo_scanOnce ∈ tbG := tb_at 799 (by decide +kernel) (by decide +kernel)
theorem tm_Mo_183 : Cond.methodLink R_Mo 183 y_Mo_look ∈ tbG := tb_at 803 (by decide +kernel) (by decide +kernel)
theorem tm_Mo_91 : Cond.methodLink R_Mo 91 y_Mo_hasCorners ∈ tbG := tb_at 807 (by decide +kernel) (by decide +kernel)
theorem tm_Mo_186 : Cond.methodLink R_Mo 186 y_Mo_believe ∈ tbG := tb_at 811 (by decide +kernel) (by decide +kernel)
theorem tm_Mo_104 : Cond.methodLink R_Mo 104 y_Mo_bring ∈ tbG := tb_at 815 (by decide +kernel) (by decide +kernel)
theorem tm_Mo_189 : Cond.methodLink R_Mo 189 y_Mo_takeFirst ∈ tbG := tb_at 819 (by decide +kernel) (by decide +kernel)
theorem tm_Mo_161 : Cond.methodLink R_Mo 161 y_Mo_takeRelease ∈ tbG := tb_at 823 (by decide +kernel) (by decide +kernel)
theorem tm_Mo_127 : Cond.methodLink R_Mo 127 y_Mo_change ∈ tbG := tb_at 827 (by decide +kernel) (by decide +kernel)
theorem tm_Mo_124 : Cond.methodLink R_Mo 124 y_Mo_tell ∈ tbG := tb_at 831 (by decide +kernel) (by decide +kernel)
theorem tm_Mo_111 : Cond.methodLink R_Mo 111 y_Mo_makeReport ∈ tbG := tb_at 835 (by decide +kernel) (by decide +kernel)
theorem tm_Mo_121 : Cond.methodLink R_Mo 121 y_Mo_copyReport ∈ tbG := tb_at 839 (by decide +kernel) (by decide +kernel)
theorem tm_Mo_140 : Cond.methodLink R_Mo 140 y_Mo_drop ∈ tbG := tb_at 843 (by decide +kernel) (by decide +kernel)
theorem tm_Mo_164 : Cond.methodLink R_Mo 164 y_Mo_rowLength ∈ tbG := tb_at 847 (by decide +kernel) (by decide +kernel)
theorem tm_Mo_167 : Cond.methodLink R_Mo 167 y_Mo_waitsForChord ∈ tbG := tb_at 851 (by decide +kernel) (by decide +kernel)
theorem tm_Mo_130 : Cond.methodLink R_Mo 130 y_Mo_keysOf ∈ tbG := tb_at 855 (by decide +kernel) (by decide +kernel)
theorem tm_Mo_170 : Cond.methodLink R_Mo 170 y_Mo_chordOf ∈ tbG := tb_at 859 (by decide +kernel) (by decide +kernel)
theorem tm_Mo_134 : Cond.methodLink R_Mo 134 y_Mo_bitsOf ∈ tbG := tb_at 863 (by decide +kernel) (by decide +kernel)
theorem tm_Mo_173 : Cond.methodLink R_Mo 173 y_Mo_takeChord ∈ tbG := tb_at 866 (by decide +kernel) (by decide +kernel)
theorem tm_Mo_144 : Cond.methodLink R_Mo 144 y_Mo_disarm ∈ tbG := tb_at 870 (by decide +kernel) (by decide +kernel)
theorem tm_Mo_176 : Cond.methodLink R_Mo 176 y_Mo_topOf ∈ tbG := tb_at 874 (by decide +kernel) (by decide +kernel)
theorem tm_Mo_108 : Cond.methodLink R_Mo 108 y_Mo_isOn ∈ tbG := tb_at 878 (by decide +kernel) (by decide +kernel)
theorem tm_Mo_179 : Cond.methodLink R_Mo 179 y_Mo_act ∈ tbG := tb_at 882 (by decide +kernel) (by decide +kernel)
theorem tm_Mo_147 : Cond.methodLink R_Mo 147 y_Mo_tapOf ∈ tbG := tb_at 886 (by decide +kernel) (by decide +kernel)
theorem tm_Mo_151 : Cond.methodLink R_Mo 151 y_Mo_begin ∈ tbG := tb_at 890 (by decide +kernel) (by decide +kernel)
theorem tm_Mo_155 : Cond.methodLink R_Mo 155 y_Mo_play ∈ tbG := tb_at 894 (by decide +kernel) (by decide +kernel)
theorem tm_Mo_158 : Cond.methodLink R_Mo 158 y_Mo_touch ∈ tbG := tb_at 898 (by decide +kernel) (by decide +kernel)
theorem tm_Lw_74 : Cond.methodLink R_Lw 74 y_Mo_scans ∈ tbG := tb_at 902 (by decide +kernel) (by decide +kernel)
theorem tm_Lw_79 : Cond.methodLink R_Lw 79 y_Mo_poll ∈ tbG := tb_at 906 (by decide +kernel) (by decide +kernel)
theorem tm_Lw_83 : Cond.methodLink R_Lw 83 y_Mo_report ∈ tbG := tb_at 910 (by decide +kernel) (by decide +kernel)
theorem tm_Lw_87 : Cond.methodLink R_Lw 87 y_Mo_waiting ∈ tbG := tb_at 914 (by decide +kernel) (by decide +kernel)
theorem tm_Lw_91 : Cond.methodLink R_Lw 91 y_Mo_late ∈ tbG := tb_at 918 (by decide +kernel) (by decide +kernel)
theorem tm_Lw_95 : Cond.methodLink R_Lw 95 y_Mo_map ∈ tbG := tb_at 922 (by decide +kernel) (by decide +kernel)
theorem tm_Mo_199 : Cond.methodLink R_Mo 199 y_Mo_isFour ∈ tbG := tb_at 926 (by decide +kernel) (by decide +kernel)
theorem tm_Mo_202 : Cond.methodLink R_Mo 202 y_Mo_isSound ∈ tbG := tb_at 929 (by decide +kernel) (by decide +kernel)
theorem tm_Mo_196 : Cond.methodLink R_Mo 196 y_Mo_isCode ∈ tbG := tb_at 932 (by decide +kernel) (by decide +kernel)
theorem tm_Lw_99 : Cond.methodLink R_Lw 99 y_Mo_macro ∈ tbG := tb_at 935 (by decide +kernel) (by decide +kernel)
theorem tm_Lw_102 : Cond.methodLink R_Lw 102 y_Mo_chord ∈ tbG := tb_at 939 (by decide +kernel) (by decide +kernel)
theorem tm_Lw_105 : Cond.methodLink R_Lw 105 y_Mo_on ∈ tbG := tb_at 944 (by decide +kernel) (by decide +kernel)
theorem tm_Lw_108 : Cond.methodLink R_Lw 108 y_Mo_top ∈ tbG := tb_at 948 (by decide +kernel) (by decide +kernel)
theorem tm_Lw_112 : Cond.methodLink R_Lw 112 y_Mo_key ∈ tbG := tb_at 952 (by decide +kernel) (by decide +kernel)
theorem tm_Lw_116 : Cond.methodLink R_Lw 116 y_Mo_queued ∈ tbG := tb_at 956 (by decide +kernel) (by decide +kernel)
theorem tm_Lw_120 : Cond.methodLink R_Lw 120 y_Mo_history ∈ tbG := tb_at 960 (by decide +kernel) (by decide +kernel)
theorem ts_Mx_isFourthCorner : Cond.static y_Mx_isFourthCorner ∈ tbG := tb_at 220 (by decide +kernel) (by decide +kernel)
theorem ts_Mx_rowOf : Cond.static y_Mx_rowOf ∈ tbG := tb_at 223 (by decide +kernel) (by decide +kernel)
theorem ts_Ji_bitCount : Cond.static y_Ji_bitCount ∈ tbG := tb_at 326 (by decide +kernel) (by decide +kernel)
theorem ts_Lw_wire : Cond.static y_Lw_wire ∈ tbG := tb_at 458 (by decide +kernel) (by decide +kernel)
theorem ts_G_requireKey : Cond.static y_G_requireKey ∈ tbG := tb_at 466 (by decide +kernel) (by decide +kernel)
theorem ts_Lw_bounce : Cond.static y_Lw_bounce ∈ tbG := tb_at 541 (by decide +kernel) (by decide +kernel)
theorem ts_Lw_scans : Cond.static y_Lw_scans ∈ tbG := tb_at 569 (by decide +kernel) (by decide +kernel)
theorem ts_Lw_map : Cond.static y_Lw_map ∈ tbG := tb_at 577 (by decide +kernel) (by decide +kernel)
theorem ts_G_requireLayer : Cond.static y_G_requireLayer ∈ tbG := tb_at 584 (by decide +kernel) (by decide +kernel)
theorem ts_G_isAction : Cond.static y_G_isAction ∈ tbG := tb_at 588 (by decide +kernel) (by decide +kernel)
theorem ts_G_isCode : Cond.static y_G_isCode ∈ tbG := tb_at 591 (by decide +kernel) (by decide +kernel)
theorem ts_G_isUpperLayer : Cond.static y_G_isUpperLayer ∈ tbG := tb_at 594 (by decide +kernel) (by decide +kernel)
theorem ts_Lw_macro : Cond.static y_Lw_macro ∈ tbG := tb_at 602 (by decide +kernel) (by decide +kernel)
theorem ts_Lw_chord : Cond.static y_Lw_chord ∈ tbG := tb_at 615 (by decide +kernel) (by decide +kernel)
theorem ts_G_isChord : Cond.static y_G_isChord ∈ tbG := tb_at 624 (by decide +kernel) (by decide +kernel)
theorem ts_Lw_on : Cond.static y_Lw_on ∈ tbG := tb_at 652 (by decide +kernel) (by decide +kernel)
theorem ts_Lw_top : Cond.static y_Lw_top ∈ tbG := tb_at 660 (by decide +kernel) (by decide +kernel)
theorem ts_Lw_key : Cond.static y_Lw_key ∈ tbG := tb_at 667 (by decide +kernel) (by decide +kernel)
theorem ts_Mo_isKey : Cond.static y_Mo_isKey ∈ tbG := tb_at 785 (by decide +kernel) (by decide +kernel)
theorem ts_Mo_bitsOf : Cond.static y_Mo_bitsOf ∈ tbG := tb_at 864 (by decide +kernel) (by decide +kernel)
theorem ts_Mo_isFour : Cond.static y_Mo_isFour ∈ tbG := tb_at 927 (by decide +kernel) (by decide +kernel)
theorem ts_Mo_isSound : Cond.static y_Mo_isSound ∈ tbG := tb_at 930 (by decide +kernel) (by decide +kernel)
theorem ts_Mo_isCode : Cond.static y_Mo_isCode ∈ tbG := tb_at 933 (by decide +kernel) (by decide +kernel)
theorem ti_G_init : Cond.instanceMethod y_G_init ∈ tbG := tb_at 22 (by decide +kernel) (by decide +kernel)
theorem ti_Mx_init : Cond.instanceMethod y_Mx_init ∈ tbG := tb_at 30 (by decide +kernel) (by decide +kernel)
theorem ti_Hi_init : Cond.instanceMethod y_Hi_init ∈ tbG := tb_at 56 (by decide +kernel) (by decide +kernel)
theorem ti_Eq_init : Cond.instanceMethod y_Eq_init ∈ tbG := tb_at 72 (by decide +kernel) (by decide +kernel)
theorem ti_Km_init : Cond.instanceMethod y_Km_init ∈ tbG := tb_at 88 (by decide +kernel) (by decide +kernel)
theorem ti_Ch_init : Cond.instanceMethod y_Ch_init ∈ tbG := tb_at 107 (by decide +kernel) (by decide +kernel)
theorem ti_La_init : Cond.instanceMethod y_La_init ∈ tbG := tb_at 120 (by decide +kernel) (by decide +kernel)
theorem ti_Ho_init : Cond.instanceMethod y_Ho_init ∈ tbG := tb_at 136 (by decide +kernel) (by decide +kernel)
theorem ti_Re_init : Cond.instanceMethod y_Re_init ∈ tbG := tb_at 149 (by decide +kernel) (by decide +kernel)
theorem ti_G_scan : Cond.instanceMethod y_G_scan ∈ tbG := tb_at 204 (by decide +kernel) (by decide +kernel)
theorem ti_G_runScan : Cond.instanceMethod y_G_runScan ∈ tbG := tb_at 209 (by decide +kernel) (by decide +kernel)
theorem ti_Mx_look : Cond.instanceMethod y_Mx_look ∈ tbG := tb_at 212 (by decide +kernel) (by decide +kernel)
theorem ti_Mx_closedContacts : Cond.instanceMethod y_Mx_closedContacts ∈ tbG := tb_at 217 (by decide +kernel) (by decide +kernel)
theorem ti_Mx_watch : Cond.instanceMethod y_Mx_watch ∈ tbG := tb_at 227 (by decide +kernel) (by decide +kernel)
theorem ti_G_bringEvents : Cond.instanceMethod y_G_bringEvents ∈ tbG := tb_at 231 (by decide +kernel) (by decide +kernel)
theorem ti_Mx_believe : Cond.instanceMethod y_Mx_believe ∈ tbG := tb_at 234 (by decide +kernel) (by decide +kernel)
theorem ti_Hi_add : Cond.instanceMethod y_Hi_add ∈ tbG := tb_at 238 (by decide +kernel) (by decide +kernel)
theorem ti_Eq_add : Cond.instanceMethod y_Eq_add ∈ tbG := tb_at 245 (by decide +kernel) (by decide +kernel)
theorem ti_G_takeFirst : Cond.instanceMethod y_G_takeFirst ∈ tbG := tb_at 250 (by decide +kernel) (by decide +kernel)
theorem ti_Eq_length : Cond.instanceMethod y_Eq_length ∈ tbG := tb_at 253 (by decide +kernel) (by decide +kernel)
theorem ti_Eq_isPress : Cond.instanceMethod y_Eq_isPress ∈ tbG := tb_at 257 (by decide +kernel) (by decide +kernel)
theorem ti_G_takeRelease : Cond.instanceMethod y_G_takeRelease ∈ tbG := tb_at 262 (by decide +kernel) (by decide +kernel)
theorem ti_Eq_keyAt : Cond.instanceMethod y_Eq_keyAt ∈ tbG := tb_at 265 (by decide +kernel) (by decide +kernel)
theorem ti_Eq_removeFirst : Cond.instanceMethod y_Eq_removeFirst ∈ tbG := tb_at 269 (by decide +kernel) (by decide +kernel)
theorem ti_La_letGo : Cond.instanceMethod y_La_letGo ∈ tbG := tb_at 276 (by decide +kernel) (by decide +kernel)
theorem ti_Ho_end : Cond.instanceMethod y_Ho_end ∈ tbG := tb_at 280 (by decide +kernel) (by decide +kernel)
theorem ti_Ho_begin : Cond.instanceMethod y_Ho_begin ∈ tbG := tb_at 284 (by decide +kernel) (by decide +kernel)
theorem ti_Re_letGo : Cond.instanceMethod y_Re_letGo ∈ tbG := tb_at 288 (by decide +kernel) (by decide +kernel)
theorem ti_Re_packed : Cond.instanceMethod y_Re_packed ∈ tbG := tb_at 293 (by decide +kernel) (by decide +kernel)
theorem ti_Re_putIfOther : Cond.instanceMethod y_Re_putIfOther ∈ tbG := tb_at 297 (by decide +kernel) (by decide +kernel)
theorem ti_Eq_rowLength : Cond.instanceMethod y_Eq_rowLength ∈ tbG := tb_at 300 (by decide +kernel) (by decide +kernel)
theorem ti_G_waitsForChord : Cond.instanceMethod y_G_waitsForChord ∈ tbG := tb_at 306 (by decide +kernel) (by decide +kernel)
theorem ti_Eq_scanAt : Cond.instanceMethod y_Eq_scanAt ∈ tbG := tb_at 309 (by decide +kernel) (by decide +kernel)
theorem ti_Eq_firstKeys : Cond.instanceMethod y_Eq_firstKeys ∈ tbG := tb_at 313 (by decide +kernel) (by decide +kernel)
theorem ti_Ch_canGrowFrom : Cond.instanceMethod y_Ch_canGrowFrom ∈ tbG := tb_at 318 (by decide +kernel) (by decide +kernel)
theorem ti_Ch_longestAtStart : Cond.instanceMethod y_Ch_longestAtStart ∈ tbG := tb_at 322 (by decide +kernel) (by decide +kernel)
theorem ti_G_takeChord : Cond.instanceMethod y_G_takeChord ∈ tbG := tb_at 334 (by decide +kernel) (by decide +kernel)
theorem ti_Ch_keysOf : Cond.instanceMethod y_Ch_keysOf ∈ tbG := tb_at 337 (by decide +kernel) (by decide +kernel)
theorem ti_Ch_codeOf : Cond.instanceMethod y_Ch_codeOf ∈ tbG := tb_at 341 (by decide +kernel) (by decide +kernel)
theorem ti_Re_goDown : Cond.instanceMethod y_Re_goDown ∈ tbG := tb_at 347 (by decide +kernel) (by decide +kernel)
theorem ti_La_disarm : Cond.instanceMethod y_La_disarm ∈ tbG := tb_at 351 (by decide +kernel) (by decide +kernel)
theorem ti_G_takeByAction : Cond.instanceMethod y_G_takeByAction ∈ tbG := tb_at 356 (by decide +kernel) (by decide +kernel)
theorem ti_Km_topLayer : Cond.instanceMethod y_Km_topLayer ∈ tbG := tb_at 359 (by decide +kernel) (by decide +kernel)
theorem ti_Km_kind : Cond.instanceMethod y_Km_kind ∈ tbG := tb_at 363 (by decide +kernel) (by decide +kernel)
theorem ti_La_isOn : Cond.instanceMethod y_La_isOn ∈ tbG := tb_at 367 (by decide +kernel) (by decide +kernel)
theorem ti_G_tellTap : Cond.instanceMethod y_G_tellTap ∈ tbG := tb_at 373 (by decide +kernel) (by decide +kernel)
theorem ti_Eq_tellTap : Cond.instanceMethod y_Eq_tellTap ∈ tbG := tb_at 376 (by decide +kernel) (by decide +kernel)
theorem ti_Km_a : Cond.instanceMethod y_Km_a ∈ tbG := tb_at 380 (by decide +kernel) (by decide +kernel)
theorem ti_La_hold : Cond.instanceMethod y_La_hold ∈ tbG := tb_at 384 (by decide +kernel) (by decide +kernel)
theorem ti_La_turnLock : Cond.instanceMethod y_La_turnLock ∈ tbG := tb_at 388 (by decide +kernel) (by decide +kernel)
theorem ti_La_arm : Cond.instanceMethod y_La_arm ∈ tbG := tb_at 392 (by decide +kernel) (by decide +kernel)
theorem ti_G_actTap : Cond.instanceMethod y_G_actTap ∈ tbG := tb_at 397 (by decide +kernel) (by decide +kernel)
theorem ti_Km_b : Cond.instanceMethod y_Km_b ∈ tbG := tb_at 400 (by decide +kernel) (by decide +kernel)
theorem ti_G_playMacro : Cond.instanceMethod y_G_playMacro ∈ tbG := tb_at 405 (by decide +kernel) (by decide +kernel)
theorem ti_Km_macroCode : Cond.instanceMethod y_Km_macroCode ∈ tbG := tb_at 408 (by decide +kernel) (by decide +kernel)
theorem ti_G_poll : Cond.instanceMethod y_G_poll ∈ tbG := tb_at 412 (by decide +kernel) (by decide +kernel)
theorem ti_Re_takeOldest : Cond.instanceMethod y_Re_takeOldest ∈ tbG := tb_at 416 (by decide +kernel) (by decide +kernel)
theorem ti_G_report : Cond.instanceMethod y_G_report ∈ tbG := tb_at 420 (by decide +kernel) (by decide +kernel)
theorem ti_Re_partOfTaken : Cond.instanceMethod y_Re_partOfTaken ∈ tbG := tb_at 424 (by decide +kernel) (by decide +kernel)
theorem ti_G_waiting : Cond.instanceMethod y_G_waiting ∈ tbG := tb_at 430 (by decide +kernel) (by decide +kernel)
theorem ti_Re_stored : Cond.instanceMethod y_Re_stored ∈ tbG := tb_at 434 (by decide +kernel) (by decide +kernel)
theorem ti_G_late : Cond.instanceMethod y_G_late ∈ tbG := tb_at 438 (by decide +kernel) (by decide +kernel)
theorem ti_Re_isLate : Cond.instanceMethod y_Re_isLate ∈ tbG := tb_at 442 (by decide +kernel) (by decide +kernel)
theorem ti_G_queued : Cond.instanceMethod y_G_queued ∈ tbG := tb_at 446 (by decide +kernel) (by decide +kernel)
theorem ti_G_history : Cond.instanceMethod y_G_history ∈ tbG := tb_at 450 (by decide +kernel) (by decide +kernel)
theorem ti_Hi_latest : Cond.instanceMethod y_Hi_latest ∈ tbG := tb_at 454 (by decide +kernel) (by decide +kernel)
theorem ti_G_wire : Cond.instanceMethod y_G_wire ∈ tbG := tb_at 462 (by decide +kernel) (by decide +kernel)
theorem ti_Mx_setWired : Cond.instanceMethod y_Mx_setWired ∈ tbG := tb_at 537 (by decide +kernel) (by decide +kernel)
theorem ti_G_bounce : Cond.instanceMethod y_G_bounce ∈ tbG := tb_at 545 (by decide +kernel) (by decide +kernel)
theorem ti_Mx_setBounce : Cond.instanceMethod y_Mx_setBounce ∈ tbG := tb_at 565 (by decide +kernel) (by decide +kernel)
theorem ti_G_scans : Cond.instanceMethod y_G_scans ∈ tbG := tb_at 572 (by decide +kernel) (by decide +kernel)
theorem ti_G_map : Cond.instanceMethod y_G_map ∈ tbG := tb_at 580 (by decide +kernel) (by decide +kernel)
theorem ti_Km_setAction : Cond.instanceMethod y_Km_setAction ∈ tbG := tb_at 598 (by decide +kernel) (by decide +kernel)
theorem ti_G_macro : Cond.instanceMethod y_G_macro ∈ tbG := tb_at 605 (by decide +kernel) (by decide +kernel)
theorem ti_Km_setMacroCode : Cond.instanceMethod y_Km_setMacroCode ∈ tbG := tb_at 611 (by decide +kernel) (by decide +kernel)
theorem ti_G_chord : Cond.instanceMethod y_G_chord ∈ tbG := tb_at 619 (by decide +kernel) (by decide +kernel)
theorem ti_Ch_hasElsewhere : Cond.instanceMethod y_Ch_hasElsewhere ∈ tbG := tb_at 628 (by decide +kernel) (by decide +kernel)
theorem ti_Ch_setChord : Cond.instanceMethod y_Ch_setChord ∈ tbG := tb_at 648 (by decide +kernel) (by decide +kernel)
theorem ti_G_on : Cond.instanceMethod y_G_on ∈ tbG := tb_at 655 (by decide +kernel) (by decide +kernel)
theorem ti_G_top : Cond.instanceMethod y_G_top ∈ tbG := tb_at 663 (by decide +kernel) (by decide +kernel)
theorem ti_G_key : Cond.instanceMethod y_G_key ∈ tbG := tb_at 670 (by decide +kernel) (by decide +kernel)
theorem ti_Mx_keysThatAre : Cond.instanceMethod y_Mx_keysThatAre ∈ tbG := tb_at 675 (by decide +kernel) (by decide +kernel)
theorem ti_Mo_init : Cond.instanceMethod y_Mo_init ∈ tbG := tb_at 681 (by decide +kernel) (by decide +kernel)
theorem ti_Mo_thrown : Cond.instanceMethod y_Mo_thrown ∈ tbG := tb_at 777 (by decide +kernel) (by decide +kernel)
theorem ti_Mo_wire : Cond.instanceMethod y_Mo_wire ∈ tbG := tb_at 781 (by decide +kernel) (by decide +kernel)
theorem ti_Mo_refused : Cond.instanceMethod y_Mo_refused ∈ tbG := tb_at 789 (by decide +kernel) (by decide +kernel)
theorem ti_Mo_bounce : Cond.instanceMethod y_Mo_bounce ∈ tbG := tb_at 792 (by decide +kernel) (by decide +kernel)
theorem ti_Mo_scan : Cond.instanceMethod y_Mo_scan ∈ tbG := tb_at 796 (by decide +kernel) (by decide +kernel)
theorem ti_Mo_scanOnce : Cond.instanceMethod y_Mo_scanOnce ∈ tbG := tb_at 801 (by decide +kernel) (by decide +kernel)
theorem ti_Mo_look : Cond.instanceMethod y_Mo_look ∈ tbG := tb_at 805 (by decide +kernel) (by decide +kernel)
theorem ti_Mo_hasCorners : Cond.instanceMethod y_Mo_hasCorners ∈ tbG := tb_at 809 (by decide +kernel) (by decide +kernel)
theorem ti_Mo_believe : Cond.instanceMethod y_Mo_believe ∈ tbG := tb_at 813 (by decide +kernel) (by decide +kernel)
theorem ti_Mo_bring : Cond.instanceMethod y_Mo_bring ∈ tbG := tb_at 817 (by decide +kernel) (by decide +kernel)
theorem ti_Mo_takeFirst : Cond.instanceMethod y_Mo_takeFirst ∈ tbG := tb_at 821 (by decide +kernel) (by decide +kernel)
theorem ti_Mo_takeRelease : Cond.instanceMethod y_Mo_takeRelease ∈ tbG := tb_at 825 (by decide +kernel) (by decide +kernel)
theorem ti_Mo_change : Cond.instanceMethod y_Mo_change ∈ tbG := tb_at 829 (by decide +kernel) (by decide +kernel)
theorem ti_Mo_tell : Cond.instanceMethod y_Mo_tell ∈ tbG := tb_at 833 (by decide +kernel) (by decide +kernel)
theorem ti_Mo_makeReport : Cond.instanceMethod y_Mo_makeReport ∈ tbG := tb_at 837 (by decide +kernel) (by decide +kernel)
theorem ti_Mo_copyReport : Cond.instanceMethod y_Mo_copyReport ∈ tbG := tb_at 841 (by decide +kernel) (by decide +kernel)
theorem ti_Mo_drop : Cond.instanceMethod y_Mo_drop ∈ tbG := tb_at 845 (by decide +kernel) (by decide +kernel)
theorem ti_Mo_rowLength : Cond.instanceMethod y_Mo_rowLength ∈ tbG := tb_at 849 (by decide +kernel) (by decide +kernel)
theorem ti_Mo_waitsForChord : Cond.instanceMethod y_Mo_waitsForChord ∈ tbG := tb_at 853 (by decide +kernel) (by decide +kernel)
theorem ti_Mo_keysOf : Cond.instanceMethod y_Mo_keysOf ∈ tbG := tb_at 857 (by decide +kernel) (by decide +kernel)
theorem ti_Mo_chordOf : Cond.instanceMethod y_Mo_chordOf ∈ tbG := tb_at 861 (by decide +kernel) (by decide +kernel)
theorem ti_Mo_takeChord : Cond.instanceMethod y_Mo_takeChord ∈ tbG := tb_at 868 (by decide +kernel) (by decide +kernel)
theorem ti_Mo_disarm : Cond.instanceMethod y_Mo_disarm ∈ tbG := tb_at 872 (by decide +kernel) (by decide +kernel)
theorem ti_Mo_topOf : Cond.instanceMethod y_Mo_topOf ∈ tbG := tb_at 876 (by decide +kernel) (by decide +kernel)
theorem ti_Mo_isOn : Cond.instanceMethod y_Mo_isOn ∈ tbG := tb_at 880 (by decide +kernel) (by decide +kernel)
theorem ti_Mo_act : Cond.instanceMethod y_Mo_act ∈ tbG := tb_at 884 (by decide +kernel) (by decide +kernel)
theorem ti_Mo_tapOf : Cond.instanceMethod y_Mo_tapOf ∈ tbG := tb_at 888 (by decide +kernel) (by decide +kernel)
theorem ti_Mo_begin : Cond.instanceMethod y_Mo_begin ∈ tbG := tb_at 892 (by decide +kernel) (by decide +kernel)
theorem ti_Mo_play : Cond.instanceMethod y_Mo_play ∈ tbG := tb_at 896 (by decide +kernel) (by decide +kernel)
theorem ti_Mo_touch : Cond.instanceMethod y_Mo_touch ∈ tbG := tb_at 900 (by decide +kernel) (by decide +kernel)
theorem ti_Mo_scans : Cond.instanceMethod y_Mo_scans ∈ tbG := tb_at 903 (by decide +kernel) (by decide +kernel)
theorem ti_Mo_poll : Cond.instanceMethod y_Mo_poll ∈ tbG := tb_at 907 (by decide +kernel) (by decide +kernel)
theorem ti_Mo_report : Cond.instanceMethod y_Mo_report ∈ tbG := tb_at 911 (by decide +kernel) (by decide +kernel)
theorem ti_Mo_waiting : Cond.instanceMethod y_Mo_waiting ∈ tbG := tb_at 915 (by decide +kernel) (by decide +kernel)
theorem ti_Mo_late : Cond.instanceMethod y_Mo_late ∈ tbG := tb_at 919 (by decide +kernel) (by decide +kernel)
theorem ti_Mo_map : Cond.instanceMethod y_Mo_map ∈ tbG := tb_at 923 (by decide +kernel) (by decide +kernel)
theorem ti_Mo_macro : Cond.instanceMethod y_Mo_macro ∈ tbG := tb_at 936 (by decide +kernel) (by decide +kernel)
theorem ti_Mo_chord : Cond.instanceMethod y_Mo_chord ∈ tbG := tb_at 940 (by decide +kernel) (by decide +kernel)
theorem ti_Mo_on : Cond.instanceMethod y_Mo_on ∈ tbG := tb_at 945 (by decide +kernel) (by decide +kernel)
theorem ti_Mo_top : Cond.instanceMethod y_Mo_top ∈ tbG := tb_at 949 (by decide +kernel) (by decide +kernel)
theorem ti_Mo_key : Cond.instanceMethod y_Mo_key ∈ tbG := tb_at 953 (by decide +kernel) (by decide +kernel)
theorem ti_Mo_queued : Cond.instanceMethod y_Mo_queued ∈ tbG := tb_at 957 (by decide +kernel) (by decide +kernel)
theorem ti_Mo_history : Cond.instanceMethod y_Mo_history ∈ tbG := tb_at 961 (by decide +kernel) (by decide +kernel)
theorem te_G_scan : Cond.selects R_G y_G_scan y_G_scan ∈ tbG := tb_at 205 (by decide +kernel) (by decide +kernel)
theorem te_Mx_look : Cond.selects R_Mx y_Mx_look y_Mx_look ∈ tbG := tb_at 213 (by decide +kernel) (by decide +kernel)
theorem te_Mx_believe : Cond.selects R_Mx y_Mx_believe y_Mx_believe ∈ tbG := tb_at 235 (by decide +kernel) (by decide +kernel)
theorem te_Hi_add : Cond.selects R_Hi y_Hi_add y_Hi_add ∈ tbG := tb_at 239 (by decide +kernel) (by decide +kernel)
theorem te_Eq_add : Cond.selects R_Eq y_Eq_add y_Eq_add ∈ tbG := tb_at 246 (by decide +kernel) (by decide +kernel)
theorem te_Eq_length : Cond.selects R_Eq y_Eq_length y_Eq_length ∈ tbG := tb_at 254 (by decide +kernel) (by decide +kernel)
theorem te_Eq_isPress : Cond.selects R_Eq y_Eq_isPress y_Eq_isPress ∈ tbG := tb_at 258 (by decide +kernel) (by decide +kernel)
theorem te_Eq_keyAt : Cond.selects R_Eq y_Eq_keyAt y_Eq_keyAt ∈ tbG := tb_at 266 (by decide +kernel) (by decide +kernel)
theorem te_Eq_removeFirst : Cond.selects R_Eq y_Eq_removeFirst y_Eq_removeFirst ∈ tbG := tb_at 270 (by decide +kernel) (by decide +kernel)
theorem te_La_letGo : Cond.selects R_La y_La_letGo y_La_letGo ∈ tbG := tb_at 277 (by decide +kernel) (by decide +kernel)
theorem te_Ho_end : Cond.selects R_Ho y_Ho_end y_Ho_end ∈ tbG := tb_at 281 (by decide +kernel) (by decide +kernel)
theorem te_Ho_begin : Cond.selects R_Ho y_Ho_begin y_Ho_begin ∈ tbG := tb_at 285 (by decide +kernel) (by decide +kernel)
theorem te_Re_letGo : Cond.selects R_Re y_Re_letGo y_Re_letGo ∈ tbG := tb_at 289 (by decide +kernel) (by decide +kernel)
theorem te_Eq_rowLength : Cond.selects R_Eq y_Eq_rowLength y_Eq_rowLength ∈ tbG := tb_at 301 (by decide +kernel) (by decide +kernel)
theorem te_Eq_scanAt : Cond.selects R_Eq y_Eq_scanAt y_Eq_scanAt ∈ tbG := tb_at 310 (by decide +kernel) (by decide +kernel)
theorem te_Eq_firstKeys : Cond.selects R_Eq y_Eq_firstKeys y_Eq_firstKeys ∈ tbG := tb_at 314 (by decide +kernel) (by decide +kernel)
theorem te_Ch_canGrowFrom : Cond.selects R_Ch y_Ch_canGrowFrom y_Ch_canGrowFrom ∈ tbG := tb_at 319 (by decide +kernel) (by decide +kernel)
theorem te_Ch_longestAtStart : Cond.selects R_Ch y_Ch_longestAtStart y_Ch_longestAtStart ∈ tbG := tb_at 323 (by decide +kernel) (by decide +kernel)
theorem te_Ch_keysOf : Cond.selects R_Ch y_Ch_keysOf y_Ch_keysOf ∈ tbG := tb_at 338 (by decide +kernel) (by decide +kernel)
theorem te_Ch_codeOf : Cond.selects R_Ch y_Ch_codeOf y_Ch_codeOf ∈ tbG := tb_at 342 (by decide +kernel) (by decide +kernel)
theorem te_Re_goDown : Cond.selects R_Re y_Re_goDown y_Re_goDown ∈ tbG := tb_at 348 (by decide +kernel) (by decide +kernel)
theorem te_La_disarm : Cond.selects R_La y_La_disarm y_La_disarm ∈ tbG := tb_at 352 (by decide +kernel) (by decide +kernel)
theorem te_Km_topLayer : Cond.selects R_Km y_Km_topLayer y_Km_topLayer ∈ tbG := tb_at 360 (by decide +kernel) (by decide +kernel)
theorem te_Km_kind : Cond.selects R_Km y_Km_kind y_Km_kind ∈ tbG := tb_at 364 (by decide +kernel) (by decide +kernel)
theorem te_La_isOn : Cond.selects R_La y_La_isOn y_La_isOn ∈ tbG := tb_at 368 (by decide +kernel) (by decide +kernel)
theorem te_Eq_tellTap : Cond.selects R_Eq y_Eq_tellTap y_Eq_tellTap ∈ tbG := tb_at 377 (by decide +kernel) (by decide +kernel)
theorem te_Km_a : Cond.selects R_Km y_Km_a y_Km_a ∈ tbG := tb_at 381 (by decide +kernel) (by decide +kernel)
theorem te_La_hold : Cond.selects R_La y_La_hold y_La_hold ∈ tbG := tb_at 385 (by decide +kernel) (by decide +kernel)
theorem te_La_turnLock : Cond.selects R_La y_La_turnLock y_La_turnLock ∈ tbG := tb_at 389 (by decide +kernel) (by decide +kernel)
theorem te_La_arm : Cond.selects R_La y_La_arm y_La_arm ∈ tbG := tb_at 393 (by decide +kernel) (by decide +kernel)
theorem te_Km_b : Cond.selects R_Km y_Km_b y_Km_b ∈ tbG := tb_at 401 (by decide +kernel) (by decide +kernel)
theorem te_Km_macroCode : Cond.selects R_Km y_Km_macroCode y_Km_macroCode ∈ tbG := tb_at 409 (by decide +kernel) (by decide +kernel)
theorem te_G_poll : Cond.selects R_G y_G_poll y_G_poll ∈ tbG := tb_at 413 (by decide +kernel) (by decide +kernel)
theorem te_Re_takeOldest : Cond.selects R_Re y_Re_takeOldest y_Re_takeOldest ∈ tbG := tb_at 417 (by decide +kernel) (by decide +kernel)
theorem te_G_report : Cond.selects R_G y_G_report y_G_report ∈ tbG := tb_at 421 (by decide +kernel) (by decide +kernel)
theorem te_Re_partOfTaken : Cond.selects R_Re y_Re_partOfTaken y_Re_partOfTaken ∈ tbG := tb_at 425 (by decide +kernel) (by decide +kernel)
theorem te_G_waiting : Cond.selects R_G y_G_waiting y_G_waiting ∈ tbG := tb_at 431 (by decide +kernel) (by decide +kernel)
theorem te_Re_stored : Cond.selects R_Re y_Re_stored y_Re_stored ∈ tbG := tb_at 435 (by decide +kernel) (by decide +kernel)
theorem te_G_late : Cond.selects R_G y_G_late y_G_late ∈ tbG := tb_at 439 (by decide +kernel) (by decide +kernel)
theorem te_Re_isLate : Cond.selects R_Re y_Re_isLate y_Re_isLate ∈ tbG := tb_at 443 (by decide +kernel) (by decide +kernel)
theorem te_G_queued : Cond.selects R_G y_G_queued y_G_queued ∈ tbG := tb_at 447 (by decide +kernel) (by decide +kernel)
theorem te_G_history : Cond.selects R_G y_G_history y_G_history ∈ tbG := tb_at 451 (by decide +kernel) (by decide +kernel)
theorem te_Hi_latest : Cond.selects R_Hi y_Hi_latest y_Hi_latest ∈ tbG := tb_at 455 (by decide +kernel) (by decide +kernel)
theorem te_G_wire : Cond.selects R_G y_G_wire y_G_wire ∈ tbG := tb_at 463 (by decide +kernel) (by decide +kernel)
theorem te_Mx_setWired : Cond.selects R_Mx y_Mx_setWired y_Mx_setWired ∈ tbG := tb_at 538 (by decide +kernel) (by decide +kernel)
theorem te_G_bounce : Cond.selects R_G y_G_bounce y_G_bounce ∈ tbG := tb_at 546 (by decide +kernel) (by decide +kernel)
theorem te_Mx_setBounce : Cond.selects R_Mx y_Mx_setBounce y_Mx_setBounce ∈ tbG := tb_at 566 (by decide +kernel) (by decide +kernel)
theorem te_G_scans : Cond.selects R_G y_G_scans y_G_scans ∈ tbG := tb_at 573 (by decide +kernel) (by decide +kernel)
theorem te_G_map : Cond.selects R_G y_G_map y_G_map ∈ tbG := tb_at 581 (by decide +kernel) (by decide +kernel)
theorem te_Km_setAction : Cond.selects R_Km y_Km_setAction y_Km_setAction ∈ tbG := tb_at 599 (by decide +kernel) (by decide +kernel)
theorem te_G_macro : Cond.selects R_G y_G_macro y_G_macro ∈ tbG := tb_at 606 (by decide +kernel) (by decide +kernel)
theorem te_Km_setMacroCode : Cond.selects R_Km y_Km_setMacroCode y_Km_setMacroCode ∈ tbG := tb_at 612 (by decide +kernel) (by decide +kernel)
theorem te_G_chord : Cond.selects R_G y_G_chord y_G_chord ∈ tbG := tb_at 620 (by decide +kernel) (by decide +kernel)
theorem te_Ch_hasElsewhere : Cond.selects R_Ch y_Ch_hasElsewhere y_Ch_hasElsewhere ∈ tbG := tb_at 629 (by decide +kernel) (by decide +kernel)
theorem te_Ch_setChord : Cond.selects R_Ch y_Ch_setChord y_Ch_setChord ∈ tbG := tb_at 649 (by decide +kernel) (by decide +kernel)
theorem te_G_on : Cond.selects R_G y_G_on y_G_on ∈ tbG := tb_at 656 (by decide +kernel) (by decide +kernel)
theorem te_G_top : Cond.selects R_G y_G_top y_G_top ∈ tbG := tb_at 664 (by decide +kernel) (by decide +kernel)
theorem te_G_key : Cond.selects R_G y_G_key y_G_key ∈ tbG := tb_at 671 (by decide +kernel) (by decide +kernel)
theorem te_Mx_keysThatAre : Cond.selects R_Mx y_Mx_keysThatAre y_Mx_keysThatAre ∈ tbG := tb_at 676 (by decide +kernel) (by decide +kernel)
theorem te_Mo_thrown : Cond.selects R_Mo y_Mo_thrown y_Mo_thrown ∈ tbG := tb_at 778 (by decide +kernel) (by decide +kernel)
theorem te_Mo_wire : Cond.selects R_Mo y_Mo_wire y_Mo_wire ∈ tbG := tb_at 782 (by decide +kernel) (by decide +kernel)
theorem te_Mo_bounce : Cond.selects R_Mo y_Mo_bounce y_Mo_bounce ∈ tbG := tb_at 793 (by decide +kernel) (by decide +kernel)
theorem te_Mo_scan : Cond.selects R_Mo y_Mo_scan y_Mo_scan ∈ tbG := tb_at 797 (by decide +kernel) (by decide +kernel)
theorem te_Mo_scans : Cond.selects R_Mo y_Mo_scans y_Mo_scans ∈ tbG := tb_at 904 (by decide +kernel) (by decide +kernel)
theorem te_Mo_poll : Cond.selects R_Mo y_Mo_poll y_Mo_poll ∈ tbG := tb_at 908 (by decide +kernel) (by decide +kernel)
theorem te_Mo_report : Cond.selects R_Mo y_Mo_report y_Mo_report ∈ tbG := tb_at 912 (by decide +kernel) (by decide +kernel)
theorem te_Mo_waiting : Cond.selects R_Mo y_Mo_waiting y_Mo_waiting ∈ tbG := tb_at 916 (by decide +kernel) (by decide +kernel)
theorem te_Mo_late : Cond.selects R_Mo y_Mo_late y_Mo_late ∈ tbG := tb_at 920 (by decide +kernel) (by decide +kernel)
theorem te_Mo_map : Cond.selects R_Mo y_Mo_map y_Mo_map ∈ tbG := tb_at 924 (by decide +kernel) (by decide +kernel)
theorem te_Mo_macro : Cond.selects R_Mo y_Mo_macro y_Mo_macro ∈ tbG := tb_at 937 (by decide +kernel) (by decide +kernel)
theorem te_Mo_chord : Cond.selects R_Mo y_Mo_chord y_Mo_chord ∈ tbG := tb_at 941 (by decide +kernel) (by decide +kernel)
theorem te_Mo_on : Cond.selects R_Mo y_Mo_on y_Mo_on ∈ tbG := tb_at 946 (by decide +kernel) (by decide +kernel)
theorem te_Mo_top : Cond.selects R_Mo y_Mo_top y_Mo_top ∈ tbG := tb_at 950 (by decide +kernel) (by decide +kernel)
theorem te_Mo_key : Cond.selects R_Mo y_Mo_key y_Mo_key ∈ tbG := tb_at 954 (by decide +kernel) (by decide +kernel)
theorem te_Mo_queued : Cond.selects R_Mo y_Mo_queued y_Mo_queued ∈ tbG := tb_at 958 (by decide +kernel) (by decide +kernel)
theorem te_Mo_history : Cond.selects R_Mo y_Mo_history y_Mo_history ∈ tbG := tb_at 962 (by decide +kernel) (by decide +kernel)
theorem te_G_runScan : Cond.selects R_G y_G_runScan y_G_runScan ∈ tbG := tb_sel (q := (y_G_runScan, 9)) (by decide +kernel) (by decide +kernel)
theorem te_Mx_closedContacts : Cond.selects R_Mx y_Mx_closedContacts y_Mx_closedContacts ∈ tbG := tb_sel (q := (y_Mx_closedContacts, 6)) (by decide +kernel) (by decide +kernel)
theorem te_Mx_watch : Cond.selects R_Mx y_Mx_watch y_Mx_watch ∈ tbG := tb_sel (q := (y_Mx_watch, 6)) (by decide +kernel) (by decide +kernel)
theorem te_G_bringEvents : Cond.selects R_G y_G_bringEvents y_G_bringEvents ∈ tbG := tb_sel (q := (y_G_bringEvents, 9)) (by decide +kernel) (by decide +kernel)
theorem te_G_takeFirst : Cond.selects R_G y_G_takeFirst y_G_takeFirst ∈ tbG := tb_sel (q := (y_G_takeFirst, 9)) (by decide +kernel) (by decide +kernel)
theorem te_G_takeRelease : Cond.selects R_G y_G_takeRelease y_G_takeRelease ∈ tbG := tb_sel (q := (y_G_takeRelease, 9)) (by decide +kernel) (by decide +kernel)
theorem te_Re_packed : Cond.selects R_Re y_Re_packed y_Re_packed ∈ tbG := tb_sel (q := (y_Re_packed, 7)) (by decide +kernel) (by decide +kernel)
theorem te_Re_putIfOther : Cond.selects R_Re y_Re_putIfOther y_Re_putIfOther ∈ tbG := tb_sel (q := (y_Re_putIfOther, 7)) (by decide +kernel) (by decide +kernel)
theorem te_G_waitsForChord : Cond.selects R_G y_G_waitsForChord y_G_waitsForChord ∈ tbG := tb_sel (q := (y_G_waitsForChord, 9)) (by decide +kernel) (by decide +kernel)
theorem te_G_takeChord : Cond.selects R_G y_G_takeChord y_G_takeChord ∈ tbG := tb_sel (q := (y_G_takeChord, 9)) (by decide +kernel) (by decide +kernel)
theorem te_G_takeByAction : Cond.selects R_G y_G_takeByAction y_G_takeByAction ∈ tbG := tb_sel (q := (y_G_takeByAction, 9)) (by decide +kernel) (by decide +kernel)
theorem te_G_tellTap : Cond.selects R_G y_G_tellTap y_G_tellTap ∈ tbG := tb_sel (q := (y_G_tellTap, 9)) (by decide +kernel) (by decide +kernel)
theorem te_G_actTap : Cond.selects R_G y_G_actTap y_G_actTap ∈ tbG := tb_sel (q := (y_G_actTap, 9)) (by decide +kernel) (by decide +kernel)
theorem te_G_playMacro : Cond.selects R_G y_G_playMacro y_G_playMacro ∈ tbG := tb_sel (q := (y_G_playMacro, 9)) (by decide +kernel) (by decide +kernel)
theorem te_Mo_refused : Cond.selects R_Mo y_Mo_refused y_Mo_refused ∈ tbG := tb_sel (q := (y_Mo_refused, 30)) (by decide +kernel) (by decide +kernel)
theorem te_Mo_scanOnce : Cond.selects R_Mo y_Mo_scanOnce y_Mo_scanOnce ∈ tbG := tb_sel (q := (y_Mo_scanOnce, 30)) (by decide +kernel) (by decide +kernel)
theorem te_Mo_look : Cond.selects R_Mo y_Mo_look y_Mo_look ∈ tbG := tb_sel (q := (y_Mo_look, 30)) (by decide +kernel) (by decide +kernel)
theorem te_Mo_hasCorners : Cond.selects R_Mo y_Mo_hasCorners y_Mo_hasCorners ∈ tbG := tb_sel (q := (y_Mo_hasCorners, 30)) (by decide +kernel) (by decide +kernel)
theorem te_Mo_believe : Cond.selects R_Mo y_Mo_believe y_Mo_believe ∈ tbG := tb_sel (q := (y_Mo_believe, 30)) (by decide +kernel) (by decide +kernel)
theorem te_Mo_bring : Cond.selects R_Mo y_Mo_bring y_Mo_bring ∈ tbG := tb_sel (q := (y_Mo_bring, 30)) (by decide +kernel) (by decide +kernel)
theorem te_Mo_takeFirst : Cond.selects R_Mo y_Mo_takeFirst y_Mo_takeFirst ∈ tbG := tb_sel (q := (y_Mo_takeFirst, 30)) (by decide +kernel) (by decide +kernel)
theorem te_Mo_takeRelease : Cond.selects R_Mo y_Mo_takeRelease y_Mo_takeRelease ∈ tbG := tb_sel (q := (y_Mo_takeRelease, 30)) (by decide +kernel) (by decide +kernel)
theorem te_Mo_change : Cond.selects R_Mo y_Mo_change y_Mo_change ∈ tbG := tb_sel (q := (y_Mo_change, 30)) (by decide +kernel) (by decide +kernel)
theorem te_Mo_tell : Cond.selects R_Mo y_Mo_tell y_Mo_tell ∈ tbG := tb_sel (q := (y_Mo_tell, 30)) (by decide +kernel) (by decide +kernel)
theorem te_Mo_makeReport : Cond.selects R_Mo y_Mo_makeReport y_Mo_makeReport ∈ tbG := tb_sel (q := (y_Mo_makeReport, 30)) (by decide +kernel) (by decide +kernel)
theorem te_Mo_copyReport : Cond.selects R_Mo y_Mo_copyReport y_Mo_copyReport ∈ tbG := tb_sel (q := (y_Mo_copyReport, 30)) (by decide +kernel) (by decide +kernel)
theorem te_Mo_drop : Cond.selects R_Mo y_Mo_drop y_Mo_drop ∈ tbG := tb_sel (q := (y_Mo_drop, 30)) (by decide +kernel) (by decide +kernel)
theorem te_Mo_rowLength : Cond.selects R_Mo y_Mo_rowLength y_Mo_rowLength ∈ tbG := tb_sel (q := (y_Mo_rowLength, 30)) (by decide +kernel) (by decide +kernel)
theorem te_Mo_waitsForChord : Cond.selects R_Mo y_Mo_waitsForChord y_Mo_waitsForChord ∈ tbG := tb_sel (q := (y_Mo_waitsForChord, 30)) (by decide +kernel) (by decide +kernel)
theorem te_Mo_keysOf : Cond.selects R_Mo y_Mo_keysOf y_Mo_keysOf ∈ tbG := tb_sel (q := (y_Mo_keysOf, 30)) (by decide +kernel) (by decide +kernel)
theorem te_Mo_chordOf : Cond.selects R_Mo y_Mo_chordOf y_Mo_chordOf ∈ tbG := tb_sel (q := (y_Mo_chordOf, 30)) (by decide +kernel) (by decide +kernel)
theorem te_Mo_takeChord : Cond.selects R_Mo y_Mo_takeChord y_Mo_takeChord ∈ tbG := tb_sel (q := (y_Mo_takeChord, 30)) (by decide +kernel) (by decide +kernel)
theorem te_Mo_disarm : Cond.selects R_Mo y_Mo_disarm y_Mo_disarm ∈ tbG := tb_sel (q := (y_Mo_disarm, 30)) (by decide +kernel) (by decide +kernel)
theorem te_Mo_topOf : Cond.selects R_Mo y_Mo_topOf y_Mo_topOf ∈ tbG := tb_sel (q := (y_Mo_topOf, 30)) (by decide +kernel) (by decide +kernel)
theorem te_Mo_isOn : Cond.selects R_Mo y_Mo_isOn y_Mo_isOn ∈ tbG := tb_sel (q := (y_Mo_isOn, 30)) (by decide +kernel) (by decide +kernel)
theorem te_Mo_act : Cond.selects R_Mo y_Mo_act y_Mo_act ∈ tbG := tb_sel (q := (y_Mo_act, 30)) (by decide +kernel) (by decide +kernel)
theorem te_Mo_tapOf : Cond.selects R_Mo y_Mo_tapOf y_Mo_tapOf ∈ tbG := tb_sel (q := (y_Mo_tapOf, 30)) (by decide +kernel) (by decide +kernel)
theorem te_Mo_begin : Cond.selects R_Mo y_Mo_begin y_Mo_begin ∈ tbG := tb_sel (q := (y_Mo_begin, 30)) (by decide +kernel) (by decide +kernel)
theorem te_Mo_play : Cond.selects R_Mo y_Mo_play y_Mo_play ∈ tbG := tb_sel (q := (y_Mo_play, 30)) (by decide +kernel) (by decide +kernel)
theorem te_Mo_touch : Cond.selects R_Mo y_Mo_touch y_Mo_touch ∈ tbG := tb_sel (q := (y_Mo_touch, 30)) (by decide +kernel) (by decide +kernel)
theorem tz_Lw : Cond.initialized R_Lw ∈ tbG := tb_at 0 (by decide +kernel) (by decide +kernel)
theorem tz_G : Cond.initialized R_G ∈ tbG := tb_at 1 (by decide +kernel) (by decide +kernel)
theorem tz_Mx : Cond.initialized R_Mx ∈ tbG := tb_at 2 (by decide +kernel) (by decide +kernel)
theorem tz_Hi : Cond.initialized R_Hi ∈ tbG := tb_at 3 (by decide +kernel) (by decide +kernel)
theorem tz_Eq : Cond.initialized R_Eq ∈ tbG := tb_at 4 (by decide +kernel) (by decide +kernel)
theorem tz_Km : Cond.initialized R_Km ∈ tbG := tb_at 5 (by decide +kernel) (by decide +kernel)
theorem tz_Ch : Cond.initialized R_Ch ∈ tbG := tb_at 6 (by decide +kernel) (by decide +kernel)
theorem tz_La : Cond.initialized R_La ∈ tbG := tb_at 7 (by decide +kernel) (by decide +kernel)
theorem tz_Ho : Cond.initialized R_Ho ∈ tbG := tb_at 8 (by decide +kernel) (by decide +kernel)
theorem tz_Re : Cond.initialized R_Re ∈ tbG := tb_at 9 (by decide +kernel) (by decide +kernel)
theorem tz_Mo : Cond.initialized R_Mo ∈ tbG := tb_at 10 (by decide +kernel) (by decide +kernel)
theorem tz_Ji : Cond.initialized R_Ji ∈ tbG := tb_at 17 (by decide +kernel) (by decide +kernel)
theorem tk_Ji_265 : Cond.constant R_Ji 265 (1431655765) ∈ tbG := tb_at 328 (by decide +kernel) (by decide +kernel)
theorem tk_Ji_266 : Cond.constant R_Ji 266 (858993459) ∈ tbG := tb_at 329 (by decide +kernel) (by decide +kernel)
theorem tk_Ji_267 : Cond.constant R_Ji 267 (252645135) ∈ tbG := tb_at 330 (by decide +kernel) (by decide +kernel)
theorem tk_Re_42 : Cond.constantLong R_Re 42 (255) ∈ tbG := tb_at 427 (by decide +kernel) (by decide +kernel)
theorem tk_Re_44 : Cond.constantLong R_Re 44 (127) ∈ tbG := tb_at 428 (by decide +kernel) (by decide +kernel)
theorem tk_Mo_206 : Cond.constant R_Mo 206 (16777216) ∈ tbG := tb_at 943 (by decide +kernel) (by decide +kernel)
theorem tq_Lw_8 : Cond.classLink R_Lw 8 R_G ∈ tbG := tb_at 19 (by decide +kernel) (by decide +kernel)
theorem tq_G_9 : Cond.classLink R_G 9 R_Mx ∈ tbG := tb_at 27 (by decide +kernel) (by decide +kernel)
theorem tq_G_16 : Cond.classLink R_G 16 R_Hi ∈ tbG := tb_at 53 (by decide +kernel) (by decide +kernel)
theorem tq_G_23 : Cond.classLink R_G 23 R_Eq ∈ tbG := tb_at 69 (by decide +kernel) (by decide +kernel)
theorem tq_G_30 : Cond.classLink R_G 30 R_Km ∈ tbG := tb_at 85 (by decide +kernel) (by decide +kernel)
theorem tq_G_37 : Cond.classLink R_G 37 R_Ch ∈ tbG := tb_at 104 (by decide +kernel) (by decide +kernel)
theorem tq_G_44 : Cond.classLink R_G 44 R_La ∈ tbG := tb_at 117 (by decide +kernel) (by decide +kernel)
theorem tq_G_51 : Cond.classLink R_G 51 R_Ho ∈ tbG := tb_at 133 (by decide +kernel) (by decide +kernel)
theorem tq_G_58 : Cond.classLink R_G 58 R_Re ∈ tbG := tb_at 146 (by decide +kernel) (by decide +kernel)
theorem tq_Lw_13 : Cond.classLink R_Lw 13 "java/lang/IndexOutOfBoundsException" ∈ tbG := tb_at 460 (by decide +kernel) (by decide +kernel)
theorem tq_G_121 : Cond.classLink R_G 121 "java/lang/IndexOutOfBoundsException" ∈ tbG := tb_at 468 (by decide +kernel) (by decide +kernel)
theorem tq_Lw_19 : Cond.classLink R_Lw 19 "java/lang/IllegalArgumentException" ∈ tbG := tb_at 543 (by decide +kernel) (by decide +kernel)
theorem tq_G_77 : Cond.classLink R_G 77 "java/lang/IllegalArgumentException" ∈ tbG := tb_at 548 (by decide +kernel) (by decide +kernel)
theorem tq_Lw_36 : Cond.classLink R_Lw 36 "java/lang/IllegalStateException" ∈ tbG := tb_at 617 (by decide +kernel) (by decide +kernel)
theorem tq_G_147 : Cond.classLink R_G 147 "java/lang/IllegalStateException" ∈ tbG := tb_at 631 (by decide +kernel) (by decide +kernel)
theorem tq_Lw_50 : Cond.classLink R_Lw 50 R_Mo ∈ tbG := tb_at 678 (by decide +kernel) (by decide +kernel)
theorem tn_eI : Cond.instantiable "java/lang/IndexOutOfBoundsException" 6 ∈ tbG := tb_at 469 (by decide +kernel) (by decide +kernel)
theorem tz_eI : Cond.initialized "java/lang/IndexOutOfBoundsException" ∈ tbG := tb_at 14 (by decide +kernel) (by decide +kernel)
theorem tn_eA : Cond.instantiable "java/lang/IllegalArgumentException" 6 ∈ tbG := tb_at 549 (by decide +kernel) (by decide +kernel)
theorem tz_eA : Cond.initialized "java/lang/IllegalArgumentException" ∈ tbG := tb_at 15 (by decide +kernel) (by decide +kernel)
theorem tn_eS : Cond.instantiable "java/lang/IllegalStateException" 6 ∈ tbG := tb_at 632 (by decide +kernel) (by decide +kernel)
theorem tz_eS : Cond.initialized "java/lang/IllegalStateException" ∈ tbG := tb_at 18 (by decide +kernel) (by decide +kernel)
theorem tn_G : Cond.instantiable R_G 9 ∈ tbG := tb_at 20 (by decide +kernel) (by decide +kernel)
theorem tn_Mx : Cond.instantiable R_Mx 6 ∈ tbG := tb_at 28 (by decide +kernel) (by decide +kernel)
theorem tn_Hi : Cond.instantiable R_Hi 3 ∈ tbG := tb_at 54 (by decide +kernel) (by decide +kernel)
theorem tn_Eq : Cond.instantiable R_Eq 3 ∈ tbG := tb_at 70 (by decide +kernel) (by decide +kernel)
theorem tn_Km : Cond.instantiable R_Km 4 ∈ tbG := tb_at 86 (by decide +kernel) (by decide +kernel)
theorem tn_Ch : Cond.instantiable R_Ch 2 ∈ tbG := tb_at 105 (by decide +kernel) (by decide +kernel)
theorem tn_La : Cond.instantiable R_La 3 ∈ tbG := tb_at 118 (by decide +kernel) (by decide +kernel)
theorem tn_Ho : Cond.instantiable R_Ho 2 ∈ tbG := tb_at 134 (by decide +kernel) (by decide +kernel)
theorem tn_Re : Cond.instantiable R_Re 7 ∈ tbG := tb_at 147 (by decide +kernel) (by decide +kernel)
theorem tn_Mo : Cond.instantiable R_Mo 30 ∈ tbG := tb_at 679 (by decide +kernel) (by decide +kernel)
theorem ta_int : Cond.arrayClass .int ∈ tbG := tb_at 52 (by decide +kernel) (by decide +kernel)
theorem ta_long : Cond.arrayClass .long ∈ tbG := tb_at 174 (by decide +kernel) (by decide +kernel)
theorem ta_boolean : Cond.arrayClass .boolean ∈ tbG := tb_at 775 (by decide +kernel) (by decide +kernel)
theorem ts_mmin : Cond.static Lib.Math.min.name ∈ tbG := tb_at 242 (by decide +kernel) (by decide +kernel)
set_option maxRecDepth 100000 in
theorem tc_mmin : Cond.code Lib.Math.min.name Lib.Math.min.code 2 (some .int) ∈ tbG := tb_at 243 rfl rfl
theorem ts_mmax : Cond.static Lib.Math.max.name ∈ tbG := tb_at 273 (by decide +kernel) (by decide +kernel)
set_option maxRecDepth 100000 in
theorem tc_mmax : Cond.code Lib.Math.max.name Lib.Math.max.code 2 (some .int) ∈ tbG := tb_at 274 rfl rfl
theorem tz_math : Cond.initialized "java/lang/Math" ∈ tbG := tb_at 16 (by decide +kernel) (by decide +kernel)
set_option maxRecDepth 100000 in
theorem tc_G_init : cw_G_init ∈ tbG := tb_at 23 rfl rfl
set_option maxRecDepth 100000 in
theorem tc_G_wire : cw_G_wire ∈ tbG := tb_at 464 rfl rfl
set_option maxRecDepth 100000 in
theorem tc_G_bounce : cw_G_bounce ∈ tbG := tb_at 547 rfl rfl
set_option maxRecDepth 100000 in
theorem tc_G_scan : cw_G_scan ∈ tbG := tb_at 206 rfl rfl
set_option maxRecDepth 100000 in
theorem tc_G_scans : cw_G_scans ∈ tbG := tb_at 574 rfl rfl
set_option maxRecDepth 100000 in
theorem tc_G_poll : cw_G_poll ∈ tbG := tb_at 414 rfl rfl
set_option maxRecDepth 100000 in
theorem tc_G_report : cw_G_report ∈ tbG := tb_at 422 rfl rfl
set_option maxRecDepth 100000 in
theorem tc_G_waiting : cw_G_waiting ∈ tbG := tb_at 432 rfl rfl
set_option maxRecDepth 100000 in
theorem tc_G_late : cw_G_late ∈ tbG := tb_at 440 rfl rfl
set_option maxRecDepth 100000 in
theorem tc_G_map : cw_G_map ∈ tbG := tb_at 582 rfl rfl
set_option maxRecDepth 100000 in
theorem tc_G_macro : cw_G_macro ∈ tbG := tb_at 607 rfl rfl
set_option maxRecDepth 100000 in
theorem tc_G_chord : cw_G_chord ∈ tbG := tb_at 621 rfl rfl
set_option maxRecDepth 100000 in
theorem tc_G_on : cw_G_on ∈ tbG := tb_at 657 rfl rfl
set_option maxRecDepth 100000 in
theorem tc_G_top : cw_G_top ∈ tbG := tb_at 665 rfl rfl
set_option maxRecDepth 100000 in
theorem tc_G_key : cw_G_key ∈ tbG := tb_at 672 rfl rfl
set_option maxRecDepth 100000 in
theorem tc_G_queued : cw_G_queued ∈ tbG := tb_at 448 rfl rfl
set_option maxRecDepth 100000 in
theorem tc_G_history : cw_G_history ∈ tbG := tb_at 452 rfl rfl
set_option maxRecDepth 100000 in
theorem tc_G_requireKey : cw_G_requireKey ∈ tbG := tb_at 467 rfl rfl
set_option maxRecDepth 100000 in
theorem tc_G_requireLayer : cw_G_requireLayer ∈ tbG := tb_at 585 rfl rfl
set_option maxRecDepth 100000 in
theorem tc_G_isCode : cw_G_isCode ∈ tbG := tb_at 592 rfl rfl
set_option maxRecDepth 100000 in
theorem tc_G_isUpperLayer : cw_G_isUpperLayer ∈ tbG := tb_at 595 rfl rfl
set_option maxRecDepth 100000 in
theorem tc_G_isChord : cw_G_isChord ∈ tbG := tb_at 625 rfl rfl
set_option maxRecDepth 100000 in
theorem tc_G_isAction : cw_G_isAction ∈ tbG := tb_at 589 rfl rfl
set_option maxRecDepth 100000 in
theorem tc_G_runScan : cw_G_runScan ∈ tbG := tb_at 210 rfl rfl
set_option maxRecDepth 100000 in
theorem tc_G_bringEvents : cw_G_bringEvents ∈ tbG := tb_at 232 rfl rfl
set_option maxRecDepth 100000 in
theorem tc_G_takeFirst : cw_G_takeFirst ∈ tbG := tb_at 251 rfl rfl
set_option maxRecDepth 100000 in
theorem tc_G_takeRelease : cw_G_takeRelease ∈ tbG := tb_at 263 rfl rfl
set_option maxRecDepth 100000 in
theorem tc_G_waitsForChord : cw_G_waitsForChord ∈ tbG := tb_at 307 rfl rfl
set_option maxRecDepth 100000 in
theorem tc_G_takeChord : cw_G_takeChord ∈ tbG := tb_at 335 rfl rfl
set_option maxRecDepth 100000 in
theorem tc_G_takeByAction : cw_G_takeByAction ∈ tbG := tb_at 357 rfl rfl
set_option maxRecDepth 100000 in
theorem tc_G_tellTap : cw_G_tellTap ∈ tbG := tb_at 374 rfl rfl
set_option maxRecDepth 100000 in
theorem tc_G_actTap : cw_G_actTap ∈ tbG := tb_at 398 rfl rfl
set_option maxRecDepth 100000 in
theorem tc_G_playMacro : cw_G_playMacro ∈ tbG := tb_at 406 rfl rfl
set_option maxRecDepth 100000 in
theorem tc_Mo_init : cw_Mo_init ∈ tbG := tb_at 682 rfl rfl
set_option maxRecDepth 100000 in
theorem tc_Mo_thrown : cw_Mo_thrown ∈ tbG := tb_at 779 rfl rfl
set_option maxRecDepth 100000 in
theorem tc_Mo_refused : cw_Mo_refused ∈ tbG := tb_at 790 rfl rfl
set_option maxRecDepth 100000 in
theorem tc_Mo_isKey : cw_Mo_isKey ∈ tbG := tb_at 786 rfl rfl
set_option maxRecDepth 100000 in
theorem tc_Mo_isFour : cw_Mo_isFour ∈ tbG := tb_at 928 rfl rfl
set_option maxRecDepth 100000 in
theorem tc_Mo_isCode : cw_Mo_isCode ∈ tbG := tb_at 934 rfl rfl
set_option maxRecDepth 100000 in
theorem tc_Mo_wire : cw_Mo_wire ∈ tbG := tb_at 783 rfl rfl
set_option maxRecDepth 100000 in
theorem tc_Mo_bounce : cw_Mo_bounce ∈ tbG := tb_at 794 rfl rfl
set_option maxRecDepth 100000 in
theorem tc_Mo_hasCorners : cw_Mo_hasCorners ∈ tbG := tb_at 810 rfl rfl
set_option maxRecDepth 100000 in
theorem tc_Mo_look : cw_Mo_look ∈ tbG := tb_at 806 rfl rfl
set_option maxRecDepth 100000 in
theorem tc_Mo_bring : cw_Mo_bring ∈ tbG := tb_at 818 rfl rfl
set_option maxRecDepth 100000 in
theorem tc_Mo_believe : cw_Mo_believe ∈ tbG := tb_at 814 rfl rfl
set_option maxRecDepth 100000 in
theorem tc_Mo_isOn : cw_Mo_isOn ∈ tbG := tb_at 881 rfl rfl
set_option maxRecDepth 100000 in
theorem tc_Mo_topOf : cw_Mo_topOf ∈ tbG := tb_at 877 rfl rfl
set_option maxRecDepth 100000 in
theorem tc_Mo_makeReport : cw_Mo_makeReport ∈ tbG := tb_at 838 rfl rfl
set_option maxRecDepth 100000 in
theorem tc_Mo_copyReport : cw_Mo_copyReport ∈ tbG := tb_at 842 rfl rfl
set_option maxRecDepth 100000 in
theorem tc_Mo_tell : cw_Mo_tell ∈ tbG := tb_at 834 rfl rfl
set_option maxRecDepth 100000 in
theorem tc_Mo_change : cw_Mo_change ∈ tbG := tb_at 830 rfl rfl
set_option maxRecDepth 100000 in
theorem tc_Mo_touch : cw_Mo_touch ∈ tbG := tb_at 901 rfl rfl
set_option maxRecDepth 100000 in
theorem tc_Mo_drop : cw_Mo_drop ∈ tbG := tb_at 846 rfl rfl
set_option maxRecDepth 100000 in
theorem tc_Mo_takeRelease : cw_Mo_takeRelease ∈ tbG := tb_at 826 rfl rfl
set_option maxRecDepth 100000 in
theorem tc_Mo_rowLength : cw_Mo_rowLength ∈ tbG := tb_at 850 rfl rfl
set_option maxRecDepth 100000 in
theorem tc_Mo_keysOf : cw_Mo_keysOf ∈ tbG := tb_at 858 rfl rfl
set_option maxRecDepth 100000 in
theorem tc_Mo_waitsForChord : cw_Mo_waitsForChord ∈ tbG := tb_at 854 rfl rfl
set_option maxRecDepth 100000 in
theorem tc_Mo_bitsOf : cw_Mo_bitsOf ∈ tbG := tb_at 865 rfl rfl
set_option maxRecDepth 100000 in
theorem tc_Mo_chordOf : cw_Mo_chordOf ∈ tbG := tb_at 862 rfl rfl
set_option maxRecDepth 100000 in
theorem tc_Mo_takeChord : cw_Mo_takeChord ∈ tbG := tb_at 869 rfl rfl
set_option maxRecDepth 100000 in
theorem tc_Mo_disarm : cw_Mo_disarm ∈ tbG := tb_at 873 rfl rfl
set_option maxRecDepth 100000 in
theorem tc_Mo_tapOf : cw_Mo_tapOf ∈ tbG := tb_at 889 rfl rfl
set_option maxRecDepth 100000 in
theorem tc_Mo_begin : cw_Mo_begin ∈ tbG := tb_at 893 rfl rfl
set_option maxRecDepth 100000 in
theorem tc_Mo_act : cw_Mo_act ∈ tbG := tb_at 885 rfl rfl
set_option maxRecDepth 100000 in
theorem tc_Mo_play : cw_Mo_play ∈ tbG := tb_at 897 rfl rfl
set_option maxRecDepth 100000 in
theorem tc_Mo_takeFirst : cw_Mo_takeFirst ∈ tbG := tb_at 822 rfl rfl
set_option maxRecDepth 100000 in
theorem tc_Mo_scanOnce : cw_Mo_scanOnce ∈ tbG := tb_at 802 rfl rfl
set_option maxRecDepth 100000 in
theorem tc_Mo_scan : cw_Mo_scan ∈ tbG := tb_at 798 rfl rfl
set_option maxRecDepth 100000 in
theorem tc_Mo_scans : cw_Mo_scans ∈ tbG := tb_at 905 rfl rfl
set_option maxRecDepth 100000 in
theorem tc_Mo_poll : cw_Mo_poll ∈ tbG := tb_at 909 rfl rfl
set_option maxRecDepth 100000 in
theorem tc_Mo_report : cw_Mo_report ∈ tbG := tb_at 913 rfl rfl
set_option maxRecDepth 100000 in
theorem tc_Mo_waiting : cw_Mo_waiting ∈ tbG := tb_at 917 rfl rfl
set_option maxRecDepth 100000 in
theorem tc_Mo_late : cw_Mo_late ∈ tbG := tb_at 921 rfl rfl
set_option maxRecDepth 100000 in
theorem tc_Mo_isSound : cw_Mo_isSound ∈ tbG := tb_at 931 rfl rfl
set_option maxRecDepth 100000 in
theorem tc_Mo_map : cw_Mo_map ∈ tbG := tb_at 925 rfl rfl
set_option maxRecDepth 100000 in
theorem tc_Mo_macro : cw_Mo_macro ∈ tbG := tb_at 938 rfl rfl
set_option maxRecDepth 100000 in
theorem tc_Mo_chord : cw_Mo_chord ∈ tbG := tb_at 942 rfl rfl
set_option maxRecDepth 100000 in
theorem tc_Mo_on : cw_Mo_on ∈ tbG := tb_at 947 rfl rfl
set_option maxRecDepth 100000 in
theorem tc_Mo_top : cw_Mo_top ∈ tbG := tb_at 951 rfl rfl
set_option maxRecDepth 100000 in
theorem tc_Mo_key : cw_Mo_key ∈ tbG := tb_at 955 rfl rfl
set_option maxRecDepth 100000 in
theorem tc_Mo_queued : cw_Mo_queued ∈ tbG := tb_at 959 rfl rfl
set_option maxRecDepth 100000 in
theorem tc_Mo_history : cw_Mo_history ∈ tbG := tb_at 963 rfl rfl
set_option maxRecDepth 100000 in
theorem tc_Ch_init : cw_Ch_init ∈ tbG := tb_at 108 rfl rfl
set_option maxRecDepth 100000 in
theorem tc_Ch_setChord : cw_Ch_setChord ∈ tbG := tb_at 650 rfl rfl
set_option maxRecDepth 100000 in
theorem tc_Ch_keysOf : cw_Ch_keysOf ∈ tbG := tb_at 339 rfl rfl
set_option maxRecDepth 100000 in
theorem tc_Ch_codeOf : cw_Ch_codeOf ∈ tbG := tb_at 343 rfl rfl
set_option maxRecDepth 100000 in
theorem tc_Ch_hasElsewhere : cw_Ch_hasElsewhere ∈ tbG := tb_at 630 rfl rfl
set_option maxRecDepth 100000 in
theorem tc_Ch_canGrowFrom : cw_Ch_canGrowFrom ∈ tbG := tb_at 320 rfl rfl
set_option maxRecDepth 100000 in
theorem tc_Ch_longestAtStart : cw_Ch_longestAtStart ∈ tbG := tb_at 324 rfl rfl
set_option maxRecDepth 100000 in
theorem tc_Eq_init : cw_Eq_init ∈ tbG := tb_at 73 rfl rfl
set_option maxRecDepth 100000 in
theorem tc_Eq_length : cw_Eq_length ∈ tbG := tb_at 255 rfl rfl
set_option maxRecDepth 100000 in
theorem tc_Eq_add : cw_Eq_add ∈ tbG := tb_at 247 rfl rfl
set_option maxRecDepth 100000 in
theorem tc_Eq_removeFirst : cw_Eq_removeFirst ∈ tbG := tb_at 271 rfl rfl
set_option maxRecDepth 100000 in
theorem tc_Eq_isPress : cw_Eq_isPress ∈ tbG := tb_at 259 rfl rfl
set_option maxRecDepth 100000 in
theorem tc_Eq_keyAt : cw_Eq_keyAt ∈ tbG := tb_at 267 rfl rfl
set_option maxRecDepth 100000 in
theorem tc_Eq_scanAt : cw_Eq_scanAt ∈ tbG := tb_at 311 rfl rfl
set_option maxRecDepth 100000 in
theorem tc_Eq_rowLength : cw_Eq_rowLength ∈ tbG := tb_at 302 rfl rfl
set_option maxRecDepth 100000 in
theorem tc_Eq_firstKeys : cw_Eq_firstKeys ∈ tbG := tb_at 315 rfl rfl
set_option maxRecDepth 100000 in
theorem tc_Eq_tellTap : cw_Eq_tellTap ∈ tbG := tb_at 378 rfl rfl
set_option maxRecDepth 100000 in
theorem tc_Hi_init : cw_Hi_init ∈ tbG := tb_at 57 rfl rfl
set_option maxRecDepth 100000 in
theorem tc_Hi_add : cw_Hi_add ∈ tbG := tb_at 240 rfl rfl
set_option maxRecDepth 100000 in
theorem tc_Hi_latest : cw_Hi_latest ∈ tbG := tb_at 456 rfl rfl
set_option maxRecDepth 100000 in
theorem tc_Ho_init : cw_Ho_init ∈ tbG := tb_at 137 rfl rfl
set_option maxRecDepth 100000 in
theorem tc_Ho_begin : cw_Ho_begin ∈ tbG := tb_at 286 rfl rfl
set_option maxRecDepth 100000 in
theorem tc_Ho_end : cw_Ho_end ∈ tbG := tb_at 282 rfl rfl
set_option maxRecDepth 100000 in
theorem tc_Km_init : cw_Km_init ∈ tbG := tb_at 89 rfl rfl
set_option maxRecDepth 100000 in
theorem tc_Km_setAction : cw_Km_setAction ∈ tbG := tb_at 600 rfl rfl
set_option maxRecDepth 100000 in
theorem tc_Km_setMacroCode : cw_Km_setMacroCode ∈ tbG := tb_at 613 rfl rfl
set_option maxRecDepth 100000 in
theorem tc_Km_macroCode : cw_Km_macroCode ∈ tbG := tb_at 410 rfl rfl
set_option maxRecDepth 100000 in
theorem tc_Km_topLayer : cw_Km_topLayer ∈ tbG := tb_at 361 rfl rfl
set_option maxRecDepth 100000 in
theorem tc_Km_kind : cw_Km_kind ∈ tbG := tb_at 365 rfl rfl
set_option maxRecDepth 100000 in
theorem tc_Km_a : cw_Km_a ∈ tbG := tb_at 382 rfl rfl
set_option maxRecDepth 100000 in
theorem tc_Km_b : cw_Km_b ∈ tbG := tb_at 402 rfl rfl
set_option maxRecDepth 100000 in
theorem tc_La_init : cw_La_init ∈ tbG := tb_at 121 rfl rfl
set_option maxRecDepth 100000 in
theorem tc_La_isOn : cw_La_isOn ∈ tbG := tb_at 369 rfl rfl
set_option maxRecDepth 100000 in
theorem tc_La_hold : cw_La_hold ∈ tbG := tb_at 386 rfl rfl
set_option maxRecDepth 100000 in
theorem tc_La_letGo : cw_La_letGo ∈ tbG := tb_at 278 rfl rfl
set_option maxRecDepth 100000 in
theorem tc_La_turnLock : cw_La_turnLock ∈ tbG := tb_at 390 rfl rfl
set_option maxRecDepth 100000 in
theorem tc_La_arm : cw_La_arm ∈ tbG := tb_at 394 rfl rfl
set_option maxRecDepth 100000 in
theorem tc_La_disarm : cw_La_disarm ∈ tbG := tb_at 353 rfl rfl
set_option maxRecDepth 100000 in
theorem tc_Mx_init : cw_Mx_init ∈ tbG := tb_at 31 rfl rfl
set_option maxRecDepth 100000 in
theorem tc_Mx_setWired : cw_Mx_setWired ∈ tbG := tb_at 539 rfl rfl
set_option maxRecDepth 100000 in
theorem tc_Mx_setBounce : cw_Mx_setBounce ∈ tbG := tb_at 567 rfl rfl
set_option maxRecDepth 100000 in
theorem tc_Mx_keysThatAre : cw_Mx_keysThatAre ∈ tbG := tb_at 677 rfl rfl
set_option maxRecDepth 100000 in
theorem tc_Mx_look : cw_Mx_look ∈ tbG := tb_at 214 rfl rfl
set_option maxRecDepth 100000 in
theorem tc_Mx_believe : cw_Mx_believe ∈ tbG := tb_at 236 rfl rfl
set_option maxRecDepth 100000 in
theorem tc_Mx_closedContacts : cw_Mx_closedContacts ∈ tbG := tb_at 218 rfl rfl
set_option maxRecDepth 100000 in
theorem tc_Mx_watch : cw_Mx_watch ∈ tbG := tb_at 228 rfl rfl
set_option maxRecDepth 100000 in
theorem tc_Mx_isFourthCorner : cw_Mx_isFourthCorner ∈ tbG := tb_at 221 rfl rfl
set_option maxRecDepth 100000 in
theorem tc_Mx_rowOf : cw_Mx_rowOf ∈ tbG := tb_at 224 rfl rfl
set_option maxRecDepth 100000 in
theorem tc_Re_init : cw_Re_init ∈ tbG := tb_at 150 rfl rfl
set_option maxRecDepth 100000 in
theorem tc_Re_stored : cw_Re_stored ∈ tbG := tb_at 436 rfl rfl
set_option maxRecDepth 100000 in
theorem tc_Re_isLate : cw_Re_isLate ∈ tbG := tb_at 444 rfl rfl
set_option maxRecDepth 100000 in
theorem tc_Re_goDown : cw_Re_goDown ∈ tbG := tb_at 349 rfl rfl
set_option maxRecDepth 100000 in
theorem tc_Re_letGo : cw_Re_letGo ∈ tbG := tb_at 290 rfl rfl
set_option maxRecDepth 100000 in
theorem tc_Re_takeOldest : cw_Re_takeOldest ∈ tbG := tb_at 418 rfl rfl
set_option maxRecDepth 100000 in
theorem tc_Re_partOfTaken : cw_Re_partOfTaken ∈ tbG := tb_at 426 rfl rfl
set_option maxRecDepth 100000 in
theorem tc_Re_putIfOther : cw_Re_putIfOther ∈ tbG := tb_at 298 rfl rfl
set_option maxRecDepth 100000 in
theorem tc_Re_packed : cw_Re_packed ∈ tbG := tb_at 294 rfl rfl
set_option maxRecDepth 100000 in
theorem tc_Lw_wire : cw_Lw_wire ∈ tbG := tb_at 459 rfl rfl
set_option maxRecDepth 100000 in
theorem tc_Lw_bounce : cw_Lw_bounce ∈ tbG := tb_at 542 rfl rfl
set_option maxRecDepth 100000 in
theorem tc_Lw_scans : cw_Lw_scans ∈ tbG := tb_at 570 rfl rfl
set_option maxRecDepth 100000 in
theorem tc_Lw_map : cw_Lw_map ∈ tbG := tb_at 578 rfl rfl
set_option maxRecDepth 100000 in
theorem tc_Lw_macro : cw_Lw_macro ∈ tbG := tb_at 603 rfl rfl
set_option maxRecDepth 100000 in
theorem tc_Lw_chord : cw_Lw_chord ∈ tbG := tb_at 616 rfl rfl
set_option maxRecDepth 100000 in
theorem tc_Lw_on : cw_Lw_on ∈ tbG := tb_at 653 rfl rfl
set_option maxRecDepth 100000 in
theorem tc_Lw_top : cw_Lw_top ∈ tbG := tb_at 661 rfl rfl
set_option maxRecDepth 100000 in
theorem tc_Lw_key : cw_Lw_key ∈ tbG := tb_at 668 rfl rfl
set_option maxRecDepth 100000 in
theorem tc_Ji_bitCount : cw_Ji_bitCount ∈ tbG := tb_at 327 rfl rfl
