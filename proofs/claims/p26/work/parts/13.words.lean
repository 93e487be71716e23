/-! the words of the tables, each by its place; what a call or a field needs of them -/
theorem mw_by {big ws : List Cond} (ps : List Nat) (hp : ws = ps.filterMap (fun i => big[i]?)) : ∀ w ∈ ws, w ∈ big := by
  intro w hw
  rw [hp] at hw
  obtain ⟨i, -, hi⟩ := List.mem_filterMap.mp hw
  exact List.mem_of_getElem? hi
theorem uin_0 : ∀ w ∈ u_ws RJx4a65c TJx4a65c 3, w ∈ lw_tbl := mw_by [91, 87, 89] (by decide +kernel)
theorem uin_1 : ∀ w ∈ u_ws RX0 TX0 6, w ∈ lw_tbl := mw_by [542, 544, 546, 548, 550, 552] (by decide +kernel)
theorem uin_2 : ∀ w ∈ u_ws RX1 TX1 4, w ∈ lw_tbl := mw_by [574, 576, 578, 580] (by decide +kernel)
theorem uin_3 : ∀ w ∈ u_ws RX2 TX2 2, w ∈ lw_tbl := mw_by [424, 426] (by decide +kernel)
theorem uin_4 : ∀ w ∈ u_ws RX3 TX3 3, w ∈ lw_tbl := mw_by [253, 255, 257] (by decide +kernel)
theorem uin_5 : ∀ w ∈ u_ws RX4 TX4 4, w ∈ lw_tbl := mw_by [594, 596, 598, 600] (by decide +kernel)
theorem uin_6 : ∀ w ∈ u_ws RX5 TX5 6, w ∈ lw_tbl := mw_by [678, 680, 682, 684, 686, 688] (by decide +kernel)
theorem uin_7 : ∀ w ∈ u_ws RX6 TX6 4, w ∈ lw_tbl := mw_by [107, 109, 111, 113] (by decide +kernel)
theorem uin_8 : ∀ w ∈ u_ws RX7 TX7 9, w ∈ lw_tbl := mw_by [126, 128, 130, 132, 134, 136, 138, 140, 142] (by decide +kernel)
theorem cb_RL_193 : mw_CB RL 193 yL_isHeld 1 := ⟨kw0, ⟨by decide, by decide⟩, by decide +kernel, kw24⟩
theorem cb_RL_185 : mw_CB RL 185 yL_holds 1 := ⟨kw0, ⟨by decide, by decide⟩, by decide +kernel, kw30⟩
theorem cb_RL_164 : mw_CB RL 164 yX7_init 0 := ⟨kw1, ⟨by decide, by decide⟩, by decide +kernel, kw35⟩
theorem cb_RX7_11 : mw_CB RX7 11 yJx4a65c_init_da8c8 0 := ⟨kw4, ⟨by decide, by decide⟩, by decide +kernel, kw43⟩
theorem cb_RJx4a65c_1 : mw_CB RJx4a65c 1 yJxc12de_init_da8c8 0 := ⟨kw3, ⟨by decide, by decide⟩, by decide +kernel, kw46⟩
theorem cb_RJxc12de_1 : mw_CB RJxc12de 1 yJxa1e45_init_da8c8 0 := ⟨kw2, ⟨by decide, by decide⟩, by decide +kernel, kw49⟩
theorem cn_RX7_33 : mw_CN RX7 33 yX6_init 0 := ⟨kw5, ⟨by decide, by decide⟩, by decide +kernel, _, kw69⟩
theorem cb_RL_165 : mw_CB RL 165 yL_from 3 := ⟨kw0, ⟨by decide, by decide⟩, by decide +kernel, kw118⟩
theorem cb_RL_169 : mw_CB RL 169 yX7_addPerson 1 := ⟨kw1, ⟨by decide, by decide⟩, by decide +kernel, kw123⟩
theorem cb_RX7_52 : mw_CB RX7 52 yJx4a65c_size_8abf5 0 := ⟨kw4, ⟨by decide, by decide⟩, by decide +kernel, kw195⟩
theorem cn_RX7_63 : mw_CN RX7 63 yX3_init 2 := ⟨kw11, ⟨by decide, by decide⟩, by decide +kernel, _, kw217⟩
theorem cb_RX7_66 : mw_CB RX7 66 yJx4a65c_add_9ea2d 1 := ⟨kw4, ⟨by decide, by decide⟩, by decide +kernel, kw233⟩
theorem cb_RJx4a65c_131 : mw_CB RJx4a65c 131 yJx4a65c_add_72be8 3 := ⟨kw4, ⟨by decide, by decide⟩, by decide +kernel, kw237⟩
theorem cb_RJx4a65c_129 : mw_CB RJx4a65c 129 yJx4a65c_grow_d5877 0 := ⟨kw4, ⟨by decide, by decide⟩, by decide +kernel, kw241⟩
theorem cb_RJx4a65c_69 : mw_CB RJx4a65c 69 yJx4a65c_grow_92f84 1 := ⟨kw4, ⟨by decide, by decide⟩, by decide +kernel, kw245⟩
theorem cb_RJx4a65c_73 : mw_CB RJx4a65c 73 yJ8_newLength_cabcc 3 := ⟨kw12, ⟨by decide, by decide⟩, by decide +kernel, kw249⟩
theorem cb_RJ8_194 : mw_CB RJ8 194 yJ9_max_7cf53 2 := ⟨kw13, ⟨by decide, by decide⟩, by decide +kernel, kw252⟩
theorem cb_RJ8_201 : mw_CB RJ8 201 yJ8_hugeLength_7cf53 2 := ⟨kw12, ⟨by decide, by decide⟩, by decide +kernel, kw256⟩
theorem cb_RJx4a65c_66 : mw_CB RJx4a65c 66 yJ7_copyOf_1904c 2 := ⟨kw14, ⟨by decide, by decide⟩, by decide +kernel, kw259⟩
theorem cb_RJ7_300 : mw_CB RJ7 300 yJ7_copyOf_6403c 3 := ⟨kw14, ⟨by decide, by decide⟩, by decide +kernel, kw278⟩
theorem cb_RJ7_304 : mw_CB RJ7 304 yJ9_min_7cf53 2 := ⟨kw13, ⟨by decide, by decide⟩, by decide +kernel, kw284⟩
theorem cb_RJx4a65c_79 : mw_CB RJx4a65c 79 yJ9_max_7cf53 2 := ⟨kw13, ⟨by decide, by decide⟩, by decide +kernel, kw290⟩
theorem cb_RL_149 : mw_CB RL 149 yX7_setLabel 3 := ⟨kw1, ⟨by decide, by decide⟩, by decide +kernel, kw292⟩
theorem cb_RX7_79 : mw_CB RX7 79 yX7_personAt 1 := ⟨kw1, ⟨by decide, by decide⟩, by decide +kernel, kw296⟩
theorem cb_RX7_87 : mw_CB RX7 87 yJx4a65c_get_915e3 1 := ⟨kw4, ⟨by decide, by decide⟩, by decide +kernel, kw316⟩
theorem cb_RJx4a65c_118 : mw_CB RJx4a65c 118 yJ15_checkIndex_7cf53 2 := ⟨kw17, ⟨by decide, by decide⟩, by decide +kernel, kw320⟩
theorem cb_RJ15_105 : mw_CB RJ15 105 yJ3_checkIndex_8e157 3 := ⟨kw18, ⟨by decide, by decide⟩, by decide +kernel, kw323⟩
theorem cb_RJx4a65c_123 : mw_CB RJx4a65c 123 yJx4a65c_elementData_915e3 1 := ⟨kw4, ⟨by decide, by decide⟩, by decide +kernel, kw326⟩
theorem cb_RX7_70 : mw_CB RX7 70 yX7_requireLabel 1 := ⟨kw1, ⟨by decide, by decide⟩, by decide +kernel, kw330⟩
theorem cn_RX7_83 : mw_CN RX7 83 yX3_keepLabel 2 := ⟨kw11, ⟨by decide, by decide⟩, by decide +kernel, _, kw334⟩
theorem cb_RX7_94 : mw_CB RX7 94 yX7_endRights 2 := ⟨kw1, ⟨by decide, by decide⟩, by decide +kernel, kw339⟩
theorem cn_RX7_293 : mw_CN RX7 293 yX4_holdsAt 1 := ⟨kw22, ⟨by decide, by decide⟩, by decide +kernel, _, kw344⟩
theorem cb_RX7_98 : mw_CB RX7 98 yX7_denyWaitingAsks 2 := ⟨kw1, ⟨by decide, by decide⟩, by decide +kernel, kw349⟩
theorem cn_RX7_154 : mw_CN RX7 154 yX0_stateAt 1 := ⟨kw20, ⟨by decide, by decide⟩, by decide +kernel, _, kw354⟩
theorem cb_RX7_101 : mw_CB RX7 101 yX7_closeEndedSessions 0 := ⟨kw1, ⟨by decide, by decide⟩, by decide +kernel, kw359⟩
theorem cn_RX7_299 : mw_CN RX7 299 yX5_restsAt 1 := ⟨kw23, ⟨by decide, by decide⟩, by decide +kernel, _, kw364⟩
theorem cb_RX7_190 : mw_CB RX7 190 yX7_rightHolds 3 := ⟨kw1, ⟨by decide, by decide⟩, by decide +kernel, kw369⟩
theorem cb_RX7_234 : mw_CB RX7 234 yX7_endSession 1 := ⟨kw1, ⟨by decide, by decide⟩, by decide +kernel, kw373⟩
theorem cn_RX7_121 : mw_CN RX7 121 yX6_add 4 := ⟨kw5, ⟨by decide, by decide⟩, by decide +kernel, _, kw377⟩
theorem cb_RL_172 : mw_CB RL 172 yX7_addMachine 1 := ⟨kw1, ⟨by decide, by decide⟩, by decide +kernel, kw382⟩
theorem cn_RX7_78 : mw_CN RX7 78 yX2_init 2 := ⟨kw19, ⟨by decide, by decide⟩, by decide +kernel, _, kw388⟩
theorem cb_RL_176 : mw_CB RL 176 yL_acts 10 := ⟨kw0, ⟨by decide, by decide⟩, by decide +kernel, kw403⟩
theorem cb_RL_32 : mw_CB RL 32 yL_holdsAt 4 := ⟨kw0, ⟨by decide, by decide⟩, by decide +kernel, kw407⟩
theorem cb_RL_144 : mw_CB RL 144 yX7_pass 1 := ⟨kw1, ⟨by decide, by decide⟩, by decide +kernel, kw410⟩
theorem cb_RL_38 : mw_CB RL 38 yL_isStep 6 := ⟨kw0, ⟨by decide, by decide⟩, by decide +kernel, kw417⟩
theorem cb_RL_19 : mw_CB RL 19 yX7_steps 0 := ⟨kw1, ⟨by decide, by decide⟩, by decide +kernel, kw425⟩
theorem cb_RL_25 : mw_CB RL 25 yX7_kind 1 := ⟨kw1, ⟨by decide, by decide⟩, by decide +kernel, kw429⟩
theorem cb_RX7_245 : mw_CB RX7 245 yX7_requireStep 1 := ⟨kw1, ⟨by decide, by decide⟩, by decide +kernel, kw433⟩
theorem cb_RL_29 : mw_CB RL 29 yX7_seal 1 := ⟨kw1, ⟨by decide, by decide⟩, by decide +kernel, kw438⟩
theorem cb_RL_116 : mw_CB RL 116 yL_end 3 := ⟨kw0, ⟨by decide, by decide⟩, by decide +kernel, kw442⟩
theorem cb_RL_147 : mw_CB RL 147 yL_deny 3 := ⟨kw0, ⟨by decide, by decide⟩, by decide +kernel, kw445⟩
theorem cb_RL_120 : mw_CB RL 120 yL_shut 5 := ⟨kw0, ⟨by decide, by decide⟩, by decide +kernel, kw448⟩
theorem cb_RL_153 : mw_CB RL 153 yX7_takeAway 2 := ⟨kw1, ⟨by decide, by decide⟩, by decide +kernel, kw451⟩
theorem cb_RX7_104 : mw_CB RX7 104 yX7_machineAt 1 := ⟨kw1, ⟨by decide, by decide⟩, by decide +kernel, kw455⟩
theorem cb_RL_156 : mw_CB RL 156 yL_isAsked 9 := ⟨kw0, ⟨by decide, by decide⟩, by decide +kernel, kw460⟩
theorem cb_RL_75 : mw_CB RL 75 yL_may 4 := ⟨kw0, ⟨by decide, by decide⟩, by decide +kernel, kw463⟩
theorem cb_RL_78 : mw_CB RL 78 yL_overdue 3 := ⟨kw0, ⟨by decide, by decide⟩, by decide +kernel, kw466⟩
theorem cb_RL_82 : mw_CB RL 82 yL_asked 4 := ⟨kw0, ⟨by decide, by decide⟩, by decide +kernel, kw469⟩
theorem cb_RL_42 : mw_CB RL 42 yX7_ask 3 := ⟨kw1, ⟨by decide, by decide⟩, by decide +kernel, kw472⟩
theorem cb_RX7_110 : mw_CB RX7 110 yX7_requireMayAskOrEnter 2 := ⟨kw1, ⟨by decide, by decide⟩, by decide +kernel, kw476⟩
theorem cn_RX7_276 : mw_CN RX7 276 yX3_hasLabel 1 := ⟨kw11, ⟨by decide, by decide⟩, by decide +kernel, _, kw480⟩
theorem cb_RX7_183 : mw_CB RX7 183 yX7_countOverdue 1 := ⟨kw1, ⟨by decide, by decide⟩, by decide +kernel, kw485⟩
theorem cn_RX7_288 : mw_CN RX7 288 yX1_isOverdueAt 1 := ⟨kw21, ⟨by decide, by decide⟩, by decide +kernel, _, kw490⟩
theorem cb_RX7_113 : mw_CB RX7 113 yX7_requireRoomFor 1 := ⟨kw1, ⟨by decide, by decide⟩, by decide +kernel, kw496⟩
theorem cn_RX7_118 : mw_CN RX7 118 yX0_init 4 := ⟨kw20, ⟨by decide, by decide⟩, by decide +kernel, _, kw500⟩
theorem cb_RL_86 : mw_CB RL 86 yL_entered 3 := ⟨kw0, ⟨by decide, by decide⟩, by decide +kernel, kw528⟩
theorem cb_RL_56 : mw_CB RL 56 yX7_enter 2 := ⟨kw1, ⟨by decide, by decide⟩, by decide +kernel, kw531⟩
theorem cn_RX7_160 : mw_CN RX7 160 yX1_init 3 := ⟨kw21, ⟨by decide, by decide⟩, by decide +kernel, _, kw535⟩
theorem cn_RX7_153 : mw_CN RX7 153 yX4_init 4 := ⟨kw22, ⟨by decide, by decide⟩, by decide +kernel, _, kw556⟩
theorem cb_RL_90 : mw_CB RL 90 yL_give 4 := ⟨kw0, ⟨by decide, by decide⟩, by decide +kernel, kw576⟩
theorem cb_RL_94 : mw_CB RL 94 yL_looked 3 := ⟨kw0, ⟨by decide, by decide⟩, by decide +kernel, kw579⟩
theorem cb_RL_60 : mw_CB RL 60 yX7_lookAt 2 := ⟨kw1, ⟨by decide, by decide⟩, by decide +kernel, kw582⟩
theorem cb_RX7_163 : mw_CB RX7 163 yX7_entryAt 1 := ⟨kw1, ⟨by decide, by decide⟩, by decide +kernel, kw586⟩
theorem cb_RL_97 : mw_CB RL 97 yL_denied 3 := ⟨kw0, ⟨by decide, by decide⟩, by decide +kernel, kw593⟩
theorem cb_RL_52 : mw_CB RL 52 yX7_deny 2 := ⟨kw1, ⟨by decide, by decide⟩, by decide +kernel, kw596⟩
theorem cb_RX7_124 : mw_CB RX7 124 yX7_askAt 1 := ⟨kw1, ⟨by decide, by decide⟩, by decide +kernel, kw600⟩
theorem cb_RX7_128 : mw_CB RX7 128 yX7_requireMayJudge 2 := ⟨kw1, ⟨by decide, by decide⟩, by decide +kernel, kw605⟩
theorem cn_RX7_228 : mw_CN RX7 228 yX3_mayJudge 2 := ⟨kw11, ⟨by decide, by decide⟩, by decide +kernel, _, kw610⟩
theorem cb_RX3_24 : mw_CB RX3 24 yX3_hasLabel 1 := ⟨kw11, ⟨by decide, by decide⟩, by decide +kernel, kw614⟩
theorem cb_RL_100 : mw_CB RL 100 yL_approved 3 := ⟨kw0, ⟨by decide, by decide⟩, by decide +kernel, kw616⟩
theorem cb_RL_48 : mw_CB RL 48 yX7_approve 2 := ⟨kw1, ⟨by decide, by decide⟩, by decide +kernel, kw619⟩
theorem cb_RL_160 : mw_CB RL 160 yL_isTyped 8 := ⟨kw0, ⟨by decide, by decide⟩, by decide +kernel, kw624⟩
theorem cb_RL_103 : mw_CB RL 103 yL_opened 3 := ⟨kw0, ⟨by decide, by decide⟩, by decide +kernel, kw627⟩
theorem cb_RL_63 : mw_CB RL 63 yX7_open 2 := ⟨kw1, ⟨by decide, by decide⟩, by decide +kernel, kw630⟩
theorem cn_RX7_198 : mw_CN RX7 198 yX5_init 3 := ⟨kw23, ⟨by decide, by decide⟩, by decide +kernel, _, kw635⟩
theorem cb_RL_106 : mw_CB RL 106 yL_let 3 := ⟨kw0, ⟨by decide, by decide⟩, by decide +kernel, kw664⟩
theorem cb_RL_69 : mw_CB RL 69 yX7_letThrough 2 := ⟨kw1, ⟨by decide, by decide⟩, by decide +kernel, kw667⟩
theorem cb_RX7_199 : mw_CB RX7 199 yX7_sessionAt 1 := ⟨kw1, ⟨by decide, by decide⟩, by decide +kernel, kw671⟩
theorem cb_RX7_205 : mw_CB RX7 205 yX7_requireOpen 1 := ⟨kw1, ⟨by decide, by decide⟩, by decide +kernel, kw676⟩
theorem cn_RX7_209 : mw_CN RX7 209 yX5_holdsLine 0 := ⟨kw23, ⟨by decide, by decide⟩, by decide +kernel, _, kw680⟩
theorem cb_RL_109 : mw_CB RL 109 yL_closed 2 := ⟨kw0, ⟨by decide, by decide⟩, by decide +kernel, kw686⟩
theorem cb_RL_72 : mw_CB RL 72 yX7_close 1 := ⟨kw1, ⟨by decide, by decide⟩, by decide +kernel, kw689⟩
theorem cb_RL_113 : mw_CB RL 113 yL_typed 3 := ⟨kw0, ⟨by decide, by decide⟩, by decide +kernel, kw693⟩
theorem cb_RL_66 : mw_CB RL 66 yX7_type 2 := ⟨kw1, ⟨by decide, by decide⟩, by decide +kernel, kw696⟩
theorem cb_RL_181 : mw_CB RL 181 yL_isTold 7 := ⟨kw0, ⟨by decide, by decide⟩, by decide +kernel, kw703⟩
theorem cb_RL_124 : mw_CB RL 124 yX7_clock 0 := ⟨kw1, ⟨by decide, by decide⟩, by decide +kernel, kw706⟩
theorem cb_RL_127 : mw_CB RL 127 yX7_askState 1 := ⟨kw1, ⟨by decide, by decide⟩, by decide +kernel, kw710⟩
theorem cb_RL_130 : mw_CB RL 130 yX7_isOpen 1 := ⟨kw1, ⟨by decide, by decide⟩, by decide +kernel, kw714⟩
theorem cb_RL_134 : mw_CB RL 134 yX7_overdue 1 := ⟨kw1, ⟨by decide, by decide⟩, by decide +kernel, kw718⟩
theorem cb_RL_136 : mw_CB RL 136 yX7_couldEnter 3 := ⟨kw1, ⟨by decide, by decide⟩, by decide +kernel, kw722⟩
theorem cb_RL_140 : mw_CB RL 140 yX7_openSessions 0 := ⟨kw1, ⟨by decide, by decide⟩, by decide +kernel, kw727⟩
theorem fl_RJx4a65c_9 : mw_FL RJx4a65c 9 0 1 := ⟨RJx4a65c, TJx4a65c, 3, "java/util/ArrayList", rfl, by decide, uin_0, fun U A h => Or.inl (mw_use h kw55 rfl), fun _ _ _ h => h⟩
theorem fp_RJx4a65c_9 : mw_FP RJx4a65c 9 0 1 (.array (.object "java/lang/Object")) false := ⟨RJx4a65c, TJx4a65c, 3, "java/util/ArrayList", tyJx4a65c, rfl, by decide, uin_0, fun U A h => Or.inl (mw_use h kw55 rfl), fun _ _ _ h => h, tyJx4a65c_ok, nmJx4a65c, by decide +kernel, rfl, fun h => nomatch h⟩
theorem fl_RJx4a65c_48 : mw_FL RJx4a65c 48 0 2 := ⟨RJx4a65c, TJx4a65c, 3, "java/util/ArrayList", rfl, by decide, uin_0, fun U A h => Or.inl (mw_use h kw56 rfl), fun _ _ _ h => h⟩
theorem fp_RJx4a65c_48 : mw_FP RJx4a65c 48 0 2 (.int) false := ⟨RJx4a65c, TJx4a65c, 3, "java/util/ArrayList", tyJx4a65c, rfl, by decide, uin_0, fun U A h => Or.inl (mw_use h kw56 rfl), fun _ _ _ h => h, tyJx4a65c_ok, nmJx4a65c, by decide +kernel, rfl, fun h => nomatch h⟩
theorem fl_RJxc12de_7 : mw_FL RJxc12de 7 0 0 := ⟨RJx4a65c, TJx4a65c, 3, "java/util/AbstractList", rfl, by decide, uin_0, fun U A h => Or.inl (mw_use h kw57 rfl), fun _ _ _ h => h⟩
theorem fp_RJxc12de_7 : mw_FP RJxc12de 7 0 0 (.int) false := ⟨RJx4a65c, TJx4a65c, 3, "java/util/AbstractList", tyJx4a65c, rfl, by decide, uin_0, fun U A h => Or.inl (mw_use h kw57 rfl), fun _ _ _ h => h, tyJx4a65c_ok, nmJx4a65c, by decide +kernel, rfl, fun h => nomatch h⟩
theorem fl_RJx4a65c_63 : mw_FL RJx4a65c 63 0 0 := ⟨RJx4a65c, TJx4a65c, 3, "java/util/ArrayList", rfl, by decide, uin_0, fun U A h => Or.inl (mw_use h kw58 rfl), fun U x h hx => u_same (args := #[]) (mw_use h kw59 rfl) x hx⟩
theorem fp_RJx4a65c_63 : mw_FP RJx4a65c 63 0 0 (.int) false := ⟨RJx4a65c, TJx4a65c, 3, "java/util/ArrayList", tyJx4a65c, rfl, by decide, uin_0, fun U A h => Or.inl (mw_use h kw58 rfl), fun U x h hx => u_same (args := #[]) (mw_use h kw59 rfl) x hx, tyJx4a65c_ok, nmJx4a65c, by decide +kernel, rfl, fun h => nomatch h⟩
theorem fl_RX6_9 : mw_FL RX6 9 7 0 := ⟨RX6, TX6, 4, "AccessGate$StepRecord", rfl, by decide, uin_7, fun U A h => Or.inl (mw_use h kw73 rfl), fun _ _ _ h => h⟩
theorem fp_RX6_9 : mw_FP RX6 9 7 0 (.array .int) true := ⟨RX6, TX6, 4, "AccessGate$StepRecord", tyX6, rfl, by decide, uin_7, fun U A h => Or.inl (mw_use h kw73 rfl), fun _ _ _ h => h, tyX6_ok, nmX6, by decide +kernel, rfl, fun _ => rfl⟩
theorem fl_RX7_248 : mw_FL RX7 248 7 0 := ⟨RX6, TX6, 4, "AccessGate$StepRecord", rfl, by decide, uin_7, fun U A h => Or.inr ⟨_, mw_use h kw74 rfl⟩, fun _ _ _ h => h⟩
theorem fl_RX6_15 : mw_FL RX6 15 7 1 := ⟨RX6, TX6, 4, "AccessGate$StepRecord", rfl, by decide, uin_7, fun U A h => Or.inl (mw_use h kw75 rfl), fun _ _ _ h => h⟩
theorem fp_RX6_15 : mw_FP RX6 15 7 1 (.array .int) true := ⟨RX6, TX6, 4, "AccessGate$StepRecord", tyX6, rfl, by decide, uin_7, fun U A h => Or.inl (mw_use h kw75 rfl), fun _ _ _ h => h, tyX6_ok, nmX6, by decide +kernel, rfl, fun _ => rfl⟩
theorem fl_RX7_252 : mw_FL RX7 252 7 1 := ⟨RX6, TX6, 4, "AccessGate$StepRecord", rfl, by decide, uin_7, fun U A h => Or.inr ⟨_, mw_use h kw76 rfl⟩, fun _ _ _ h => h⟩
theorem fl_RX6_18 : mw_FL RX6 18 7 2 := ⟨RX6, TX6, 4, "AccessGate$StepRecord", rfl, by decide, uin_7, fun U A h => Or.inl (mw_use h kw77 rfl), fun _ _ _ h => h⟩
theorem fp_RX6_18 : mw_FP RX6 18 7 2 (.int) false := ⟨RX6, TX6, 4, "AccessGate$StepRecord", tyX6, rfl, by decide, uin_7, fun U A h => Or.inl (mw_use h kw77 rfl), fun _ _ _ h => h, tyX6_ok, nmX6, by decide +kernel, rfl, fun h => nomatch h⟩
theorem fl_RX7_242 : mw_FL RX7 242 7 2 := ⟨RX6, TX6, 4, "AccessGate$StepRecord", rfl, by decide, uin_7, fun U A h => Or.inr ⟨_, mw_use h kw78 rfl⟩, fun _ _ _ h => h⟩
theorem fp_RX7_242 : mw_FP RX7 242 7 2 (.int) false := ⟨RX6, TX6, 4, "AccessGate$StepRecord", tyX6, rfl, by decide, uin_7, fun U A h => Or.inr ⟨rfl, _, mw_use h kw78 rfl⟩, fun _ _ _ h => h, tyX6_ok, nmX6, by decide +kernel, rfl, fun h => nomatch h⟩
theorem fl_RX6_22 : mw_FL RX6 22 7 3 := ⟨RX6, TX6, 4, "AccessGate$StepRecord", rfl, by decide, uin_7, fun U A h => Or.inl (mw_use h kw79 rfl), fun _ _ _ h => h⟩
theorem fp_RX6_22 : mw_FP RX6 22 7 3 (.int) false := ⟨RX6, TX6, 4, "AccessGate$StepRecord", tyX6, rfl, by decide, uin_7, fun U A h => Or.inl (mw_use h kw79 rfl), fun _ _ _ h => h, tyX6_ok, nmX6, by decide +kernel, rfl, fun h => nomatch h⟩
theorem fl_RX7_12 : mw_FL RX7 12 8 0 := ⟨RX7, TX7, 9, "AccessGate", rfl, by decide, uin_8, fun U A h => Or.inl (mw_use h kw90 rfl), fun _ _ _ h => h⟩
theorem fp_RX7_12 : mw_FP RX7 12 8 0 (.object "java/util/ArrayList") true := ⟨RX7, TX7, 9, "AccessGate", tyX7, rfl, by decide, uin_8, fun U A h => Or.inl (mw_use h kw90 rfl), fun _ _ _ h => h, tyX7_ok, nmX7, by decide +kernel, rfl, fun _ => rfl⟩
theorem fl_RX7_16 : mw_FL RX7 16 8 1 := ⟨RX7, TX7, 9, "AccessGate", rfl, by decide, uin_8, fun U A h => Or.inl (mw_use h kw91 rfl), fun _ _ _ h => h⟩
theorem fp_RX7_16 : mw_FP RX7 16 8 1 (.object "java/util/ArrayList") true := ⟨RX7, TX7, 9, "AccessGate", tyX7, rfl, by decide, uin_8, fun U A h => Or.inl (mw_use h kw91 rfl), fun _ _ _ h => h, tyX7_ok, nmX7, by decide +kernel, rfl, fun _ => rfl⟩
theorem fl_RX7_19 : mw_FL RX7 19 8 2 := ⟨RX7, TX7, 9, "AccessGate", rfl, by decide, uin_8, fun U A h => Or.inl (mw_use h kw92 rfl), fun _ _ _ h => h⟩
theorem fp_RX7_19 : mw_FP RX7 19 8 2 (.object "java/util/ArrayList") true := ⟨RX7, TX7, 9, "AccessGate", tyX7, rfl, by decide, uin_8, fun U A h => Or.inl (mw_use h kw92 rfl), fun _ _ _ h => h, tyX7_ok, nmX7, by decide +kernel, rfl, fun _ => rfl⟩
theorem fl_RX7_22 : mw_FL RX7 22 8 3 := ⟨RX7, TX7, 9, "AccessGate", rfl, by decide, uin_8, fun U A h => Or.inl (mw_use h kw93 rfl), fun _ _ _ h => h⟩
theorem fp_RX7_22 : mw_FP RX7 22 8 3 (.object "java/util/ArrayList") true := ⟨RX7, TX7, 9, "AccessGate", tyX7, rfl, by decide, uin_8, fun U A h => Or.inl (mw_use h kw93 rfl), fun _ _ _ h => h, tyX7_ok, nmX7, by decide +kernel, rfl, fun _ => rfl⟩
theorem fl_RX7_25 : mw_FL RX7 25 8 4 := ⟨RX7, TX7, 9, "AccessGate", rfl, by decide, uin_8, fun U A h => Or.inl (mw_use h kw94 rfl), fun _ _ _ h => h⟩
theorem fp_RX7_25 : mw_FP RX7 25 8 4 (.object "java/util/ArrayList") true := ⟨RX7, TX7, 9, "AccessGate", tyX7, rfl, by decide, uin_8, fun U A h => Or.inl (mw_use h kw94 rfl), fun _ _ _ h => h, tyX7_ok, nmX7, by decide +kernel, rfl, fun _ => rfl⟩
theorem fl_RX7_28 : mw_FL RX7 28 8 5 := ⟨RX7, TX7, 9, "AccessGate", rfl, by decide, uin_8, fun U A h => Or.inl (mw_use h kw95 rfl), fun _ _ _ h => h⟩
theorem fp_RX7_28 : mw_FP RX7 28 8 5 (.object "java/util/ArrayList") true := ⟨RX7, TX7, 9, "AccessGate", tyX7, rfl, by decide, uin_8, fun U A h => Or.inl (mw_use h kw95 rfl), fun _ _ _ h => h, tyX7_ok, nmX7, by decide +kernel, rfl, fun _ => rfl⟩
theorem fl_RX7_34 : mw_FL RX7 34 8 6 := ⟨RX7, TX7, 9, "AccessGate", rfl, by decide, uin_8, fun U A h => Or.inl (mw_use h kw96 rfl), fun _ _ _ h => h⟩
theorem fp_RX7_34 : mw_FP RX7 34 8 6 (.object "AccessGate$StepRecord") true := ⟨RX7, TX7, 9, "AccessGate", tyX7, rfl, by decide, uin_8, fun U A h => Or.inl (mw_use h kw96 rfl), fun _ _ _ h => h, tyX7_ok, nmX7, by decide +kernel, rfl, fun _ => rfl⟩
theorem fl_RX7_38 : mw_FL RX7 38 8 7 := ⟨RX7, TX7, 9, "AccessGate", rfl, by decide, uin_8, fun U A h => Or.inl (mw_use h kw97 rfl), fun _ _ _ h => h⟩
theorem fp_RX7_38 : mw_FP RX7 38 8 7 (.int) false := ⟨RX7, TX7, 9, "AccessGate", tyX7, rfl, by decide, uin_8, fun U A h => Or.inl (mw_use h kw97 rfl), fun _ _ _ h => h, tyX7_ok, nmX7, by decide +kernel, rfl, fun h => nomatch h⟩
theorem fl_RX7_42 : mw_FL RX7 42 8 8 := ⟨RX7, TX7, 9, "AccessGate", rfl, by decide, uin_8, fun U A h => Or.inl (mw_use h kw98 rfl), fun _ _ _ h => h⟩
theorem fp_RX7_42 : mw_FP RX7 42 8 8 (.int) false := ⟨RX7, TX7, 9, "AccessGate", tyX7, rfl, by decide, uin_8, fun U A h => Or.inl (mw_use h kw98 rfl), fun _ _ _ h => h, tyX7_ok, nmX7, by decide +kernel, rfl, fun h => nomatch h⟩
theorem fl_RX3_13 : mw_FL RX3 13 4 0 := ⟨RX3, TX3, 3, "AccessGate$Person", rfl, by decide, uin_4, fun U A h => Or.inl (mw_use h kw221 rfl), fun _ _ _ h => h⟩
theorem fp_RX3_13 : mw_FP RX3 13 4 0 (.int) true := ⟨RX3, TX3, 3, "AccessGate$Person", tyX3, rfl, by decide, uin_4, fun U A h => Or.inl (mw_use h kw221 rfl), fun _ _ _ h => h, tyX3_ok, nmX3, by decide +kernel, rfl, fun _ => rfl⟩
theorem fl_RX6_25 : mw_FL RX6 25 4 0 := ⟨RX3, TX3, 3, "AccessGate$Person", rfl, by decide, uin_4, fun U A h => Or.inr ⟨_, mw_use h kw222 rfl⟩, fun _ _ _ h => h⟩
theorem fl_RX3_16 : mw_FL RX3 16 4 1 := ⟨RX3, TX3, 3, "AccessGate$Person", rfl, by decide, uin_4, fun U A h => Or.inl (mw_use h kw223 rfl), fun _ _ _ h => h⟩
theorem fp_RX3_16 : mw_FP RX3 16 4 1 (.int) true := ⟨RX3, TX3, 3, "AccessGate$Person", tyX3, rfl, by decide, uin_4, fun U A h => Or.inl (mw_use h kw223 rfl), fun _ _ _ h => h, tyX3_ok, nmX3, by decide +kernel, rfl, fun _ => rfl⟩
theorem fl_RX7_173 : mw_FL RX7 173 4 1 := ⟨RX3, TX3, 3, "AccessGate$Person", rfl, by decide, uin_4, fun U A h => Or.inr ⟨_, mw_use h kw224 rfl⟩, fun _ _ _ h => h⟩
theorem fl_RX3_7 : mw_FL RX3 7 4 2 := ⟨RX3, TX3, 3, "AccessGate$Person", rfl, by decide, uin_4, fun U A h => Or.inl (mw_use h kw225 rfl), fun _ _ _ h => h⟩
theorem fp_RX3_7 : mw_FP RX3 7 4 2 (.int) false := ⟨RX3, TX3, 3, "AccessGate$Person", tyX3, rfl, by decide, uin_4, fun U A h => Or.inl (mw_use h kw225 rfl), fun _ _ _ h => h, tyX3_ok, nmX3, by decide +kernel, rfl, fun h => nomatch h⟩
theorem fl_RX2_7 : mw_FL RX2 7 3 0 := ⟨RX2, TX2, 2, "AccessGate$Machine", rfl, by decide, uin_3, fun U A h => Or.inl (mw_use h kw392 rfl), fun _ _ _ h => h⟩
theorem fp_RX2_7 : mw_FP RX2 7 3 0 (.int) true := ⟨RX2, TX2, 2, "AccessGate$Machine", tyX2, rfl, by decide, uin_3, fun U A h => Or.inl (mw_use h kw392 rfl), fun _ _ _ h => h, tyX2_ok, nmX2, by decide +kernel, rfl, fun _ => rfl⟩
theorem fl_RX6_30 : mw_FL RX6 30 3 0 := ⟨RX2, TX2, 2, "AccessGate$Machine", rfl, by decide, uin_3, fun U A h => Or.inr ⟨_, mw_use h kw393 rfl⟩, fun _ _ _ h => h⟩
theorem fl_RX2_13 : mw_FL RX2 13 3 1 := ⟨RX2, TX2, 2, "AccessGate$Machine", rfl, by decide, uin_3, fun U A h => Or.inl (mw_use h kw394 rfl), fun _ _ _ h => h⟩
theorem fp_RX2_13 : mw_FP RX2 13 3 1 (.int) true := ⟨RX2, TX2, 2, "AccessGate$Machine", tyX2, rfl, by decide, uin_3, fun U A h => Or.inl (mw_use h kw394 rfl), fun _ _ _ h => h, tyX2_ok, nmX2, by decide +kernel, rfl, fun _ => rfl⟩
theorem fl_RX3_19 : mw_FL RX3 19 3 1 := ⟨RX2, TX2, 2, "AccessGate$Machine", rfl, by decide, uin_3, fun U A h => Or.inr ⟨_, mw_use h kw395 rfl⟩, fun _ _ _ h => h⟩
theorem fl_RX7_91 : mw_FL RX7 91 3 1 := ⟨RX2, TX2, 2, "AccessGate$Machine", rfl, by decide, uin_3, fun U A h => Or.inr ⟨_, mw_use h kw396 rfl⟩, fun _ _ _ h => h⟩
theorem fl_RX0_19 : mw_FL RX0 19 1 0 := ⟨RX0, TX0, 6, "AccessGate$Ask", rfl, by decide, uin_1, fun U A h => Or.inl (mw_use h kw504 rfl), fun _ _ _ h => h⟩
theorem fp_RX0_19 : mw_FP RX0 19 1 0 (.object "AccessGate$Person") true := ⟨RX0, TX0, 6, "AccessGate$Ask", tyX0, rfl, by decide, uin_1, fun U A h => Or.inl (mw_use h kw504 rfl), fun _ _ _ h => h, tyX0_ok, nmX0, by decide +kernel, rfl, fun _ => rfl⟩
theorem fl_RX7_147 : mw_FL RX7 147 1 0 := ⟨RX0, TX0, 6, "AccessGate$Ask", rfl, by decide, uin_1, fun U A h => Or.inr ⟨_, mw_use h kw505 rfl⟩, fun _ _ _ h => h⟩
theorem fl_RX0_22 : mw_FL RX0 22 1 1 := ⟨RX0, TX0, 6, "AccessGate$Ask", rfl, by decide, uin_1, fun U A h => Or.inl (mw_use h kw506 rfl), fun _ _ _ h => h⟩
theorem fp_RX0_22 : mw_FP RX0 22 1 1 (.object "AccessGate$Machine") true := ⟨RX0, TX0, 6, "AccessGate$Ask", tyX0, rfl, by decide, uin_1, fun U A h => Or.inl (mw_use h kw506 rfl), fun _ _ _ h => h, tyX0_ok, nmX0, by decide +kernel, rfl, fun _ => rfl⟩
theorem fl_RX7_138 : mw_FL RX7 138 1 1 := ⟨RX0, TX0, 6, "AccessGate$Ask", rfl, by decide, uin_1, fun U A h => Or.inr ⟨_, mw_use h kw507 rfl⟩, fun _ _ _ h => h⟩
theorem fl_RX0_26 : mw_FL RX0 26 1 2 := ⟨RX0, TX0, 6, "AccessGate$Ask", rfl, by decide, uin_1, fun U A h => Or.inl (mw_use h kw508 rfl), fun _ _ _ h => h⟩
theorem fp_RX0_26 : mw_FP RX0 26 1 2 (.int) true := ⟨RX0, TX0, 6, "AccessGate$Ask", tyX0, rfl, by decide, uin_1, fun U A h => Or.inl (mw_use h kw508 rfl), fun _ _ _ h => h, tyX0_ok, nmX0, by decide +kernel, rfl, fun _ => rfl⟩
theorem fl_RX7_150 : mw_FL RX7 150 1 2 := ⟨RX0, TX0, 6, "AccessGate$Ask", rfl, by decide, uin_1, fun U A h => Or.inr ⟨_, mw_use h kw509 rfl⟩, fun _ _ _ h => h⟩
theorem fl_RX0_29 : mw_FL RX0 29 1 3 := ⟨RX0, TX0, 6, "AccessGate$Ask", rfl, by decide, uin_1, fun U A h => Or.inl (mw_use h kw510 rfl), fun _ _ _ h => h⟩
theorem fp_RX0_29 : mw_FP RX0 29 1 3 (.int) true := ⟨RX0, TX0, 6, "AccessGate$Ask", tyX0, rfl, by decide, uin_1, fun U A h => Or.inl (mw_use h kw510 rfl), fun _ _ _ h => h, tyX0_ok, nmX0, by decide +kernel, rfl, fun _ => rfl⟩
theorem fl_RX0_9 : mw_FL RX0 9 1 4 := ⟨RX0, TX0, 6, "AccessGate$Ask", rfl, by decide, uin_1, fun U A h => Or.inl (mw_use h kw511 rfl), fun _ _ _ h => h⟩
theorem fp_RX0_9 : mw_FP RX0 9 1 4 (.object "AccessGate$Person") false := ⟨RX0, TX0, 6, "AccessGate$Ask", tyX0, rfl, by decide, uin_1, fun U A h => Or.inl (mw_use h kw511 rfl), fun _ _ _ h => h, tyX0_ok, nmX0, by decide +kernel, rfl, fun h => nomatch h⟩
theorem fl_RX7_132 : mw_FL RX7 132 1 4 := ⟨RX0, TX0, 6, "AccessGate$Ask", rfl, by decide, uin_1, fun U A h => Or.inr ⟨_, mw_use h kw512 rfl⟩, fun _ _ _ h => h⟩
theorem fp_RX7_132 : mw_FP RX7 132 1 4 (.object "AccessGate$Person") false := ⟨RX0, TX0, 6, "AccessGate$Ask", tyX0, rfl, by decide, uin_1, fun U A h => Or.inr ⟨rfl, _, mw_use h kw512 rfl⟩, fun _ _ _ h => h, tyX0_ok, nmX0, by decide +kernel, rfl, fun h => nomatch h⟩
theorem fl_RX0_15 : mw_FL RX0 15 1 5 := ⟨RX0, TX0, 6, "AccessGate$Ask", rfl, by decide, uin_1, fun U A h => Or.inl (mw_use h kw513 rfl), fun _ _ _ h => h⟩
theorem fp_RX0_15 : mw_FP RX0 15 1 5 (.int) false := ⟨RX0, TX0, 6, "AccessGate$Ask", tyX0, rfl, by decide, uin_1, fun U A h => Or.inl (mw_use h kw513 rfl), fun _ _ _ h => h, tyX0_ok, nmX0, by decide +kernel, rfl, fun h => nomatch h⟩
theorem fl_RX7_142 : mw_FL RX7 142 1 5 := ⟨RX0, TX0, 6, "AccessGate$Ask", rfl, by decide, uin_1, fun U A h => Or.inr ⟨_, mw_use h kw514 rfl⟩, fun _ _ _ h => h⟩
theorem fp_RX7_142 : mw_FP RX7 142 1 5 (.int) false := ⟨RX0, TX0, 6, "AccessGate$Ask", tyX0, rfl, by decide, uin_1, fun U A h => Or.inr ⟨rfl, _, mw_use h kw514 rfl⟩, fun _ _ _ h => h, tyX0_ok, nmX0, by decide +kernel, rfl, fun h => nomatch h⟩
theorem fl_RX1_15 : mw_FL RX1 15 2 0 := ⟨RX1, TX1, 4, "AccessGate$Entry", rfl, by decide, uin_2, fun U A h => Or.inl (mw_use h kw539 rfl), fun _ _ _ h => h⟩
theorem fp_RX1_15 : mw_FP RX1 15 2 0 (.object "AccessGate$Person") true := ⟨RX1, TX1, 4, "AccessGate$Entry", tyX1, rfl, by decide, uin_2, fun U A h => Or.inl (mw_use h kw539 rfl), fun _ _ _ h => h, tyX1_ok, nmX1, by decide +kernel, rfl, fun _ => rfl⟩
theorem fl_RX7_176 : mw_FL RX7 176 2 0 := ⟨RX1, TX1, 4, "AccessGate$Entry", rfl, by decide, uin_2, fun U A h => Or.inr ⟨_, mw_use h kw540 rfl⟩, fun _ _ _ h => h⟩
theorem fl_RX1_19 : mw_FL RX1 19 2 1 := ⟨RX1, TX1, 4, "AccessGate$Entry", rfl, by decide, uin_2, fun U A h => Or.inl (mw_use h kw541 rfl), fun _ _ _ h => h⟩
theorem fp_RX1_19 : mw_FP RX1 19 2 1 (.object "AccessGate$Machine") true := ⟨RX1, TX1, 4, "AccessGate$Entry", tyX1, rfl, by decide, uin_2, fun U A h => Or.inl (mw_use h kw541 rfl), fun _ _ _ h => h, tyX1_ok, nmX1, by decide +kernel, rfl, fun _ => rfl⟩
theorem fl_RX7_179 : mw_FL RX7 179 2 1 := ⟨RX1, TX1, 4, "AccessGate$Entry", rfl, by decide, uin_2, fun U A h => Or.inr ⟨_, mw_use h kw542 rfl⟩, fun _ _ _ h => h⟩
theorem fl_RX1_23 : mw_FL RX1 23 2 2 := ⟨RX1, TX1, 4, "AccessGate$Entry", rfl, by decide, uin_2, fun U A h => Or.inl (mw_use h kw543 rfl), fun _ _ _ h => h⟩
theorem fp_RX1_23 : mw_FP RX1 23 2 2 (.int) true := ⟨RX1, TX1, 4, "AccessGate$Entry", tyX1, rfl, by decide, uin_2, fun U A h => Or.inl (mw_use h kw543 rfl), fun _ _ _ h => h, tyX1_ok, nmX1, by decide +kernel, rfl, fun _ => rfl⟩
theorem fl_RX7_180 : mw_FL RX7 180 2 2 := ⟨RX1, TX1, 4, "AccessGate$Entry", rfl, by decide, uin_2, fun U A h => Or.inr ⟨_, mw_use h kw544 rfl⟩, fun _ _ _ h => h⟩
theorem fl_RX1_9 : mw_FL RX1 9 2 3 := ⟨RX1, TX1, 4, "AccessGate$Entry", rfl, by decide, uin_2, fun U A h => Or.inl (mw_use h kw545 rfl), fun _ _ _ h => h⟩
theorem fp_RX1_9 : mw_FP RX1 9 2 3 (.boolean) false := ⟨RX1, TX1, 4, "AccessGate$Entry", tyX1, rfl, by decide, uin_2, fun U A h => Or.inl (mw_use h kw545 rfl), fun _ _ _ h => h, tyX1_ok, nmX1, by decide +kernel, rfl, fun h => nomatch h⟩
theorem fl_RX7_167 : mw_FL RX7 167 2 3 := ⟨RX1, TX1, 4, "AccessGate$Entry", rfl, by decide, uin_2, fun U A h => Or.inr ⟨_, mw_use h kw546 rfl⟩, fun _ _ _ h => h⟩
theorem fp_RX7_167 : mw_FP RX7 167 2 3 (.boolean) false := ⟨RX1, TX1, 4, "AccessGate$Entry", tyX1, rfl, by decide, uin_2, fun U A h => Or.inr ⟨rfl, _, mw_use h kw546 rfl⟩, fun _ _ _ h => h, tyX1_ok, nmX1, by decide +kernel, rfl, fun h => nomatch h⟩
theorem fl_RX4_7 : mw_FL RX4 7 5 0 := ⟨RX4, TX4, 4, "AccessGate$Right", rfl, by decide, uin_5, fun U A h => Or.inl (mw_use h kw560 rfl), fun _ _ _ h => h⟩
theorem fp_RX4_7 : mw_FP RX4 7 5 0 (.object "AccessGate$Person") true := ⟨RX4, TX4, 4, "AccessGate$Right", tyX4, rfl, by decide, uin_5, fun U A h => Or.inl (mw_use h kw560 rfl), fun _ _ _ h => h, tyX4_ok, nmX4, by decide +kernel, rfl, fun _ => rfl⟩
theorem fl_RX7_291 : mw_FL RX7 291 5 0 := ⟨RX4, TX4, 4, "AccessGate$Right", rfl, by decide, uin_5, fun U A h => Or.inr ⟨_, mw_use h kw561 rfl⟩, fun _ _ _ h => h⟩
theorem fl_RX4_13 : mw_FL RX4 13 5 1 := ⟨RX4, TX4, 4, "AccessGate$Right", rfl, by decide, uin_5, fun U A h => Or.inl (mw_use h kw562 rfl), fun _ _ _ h => h⟩
theorem fp_RX4_13 : mw_FP RX4 13 5 1 (.object "AccessGate$Machine") true := ⟨RX4, TX4, 4, "AccessGate$Right", tyX4, rfl, by decide, uin_5, fun U A h => Or.inl (mw_use h kw562 rfl), fun _ _ _ h => h, tyX4_ok, nmX4, by decide +kernel, rfl, fun _ => rfl⟩
theorem fl_RX7_292 : mw_FL RX7 292 5 1 := ⟨RX4, TX4, 4, "AccessGate$Right", rfl, by decide, uin_5, fun U A h => Or.inr ⟨_, mw_use h kw563 rfl⟩, fun _ _ _ h => h⟩
theorem fl_RX4_17 : mw_FL RX4 17 5 2 := ⟨RX4, TX4, 4, "AccessGate$Right", rfl, by decide, uin_5, fun U A h => Or.inl (mw_use h kw564 rfl), fun _ _ _ h => h⟩
theorem fp_RX4_17 : mw_FP RX4 17 5 2 (.int) true := ⟨RX4, TX4, 4, "AccessGate$Right", tyX4, rfl, by decide, uin_5, fun U A h => Or.inl (mw_use h kw564 rfl), fun _ _ _ h => h, tyX4_ok, nmX4, by decide +kernel, rfl, fun _ => rfl⟩
theorem fl_RX4_21 : mw_FL RX4 21 5 3 := ⟨RX4, TX4, 4, "AccessGate$Right", rfl, by decide, uin_5, fun U A h => Or.inl (mw_use h kw565 rfl), fun _ _ _ h => h⟩
theorem fp_RX4_21 : mw_FP RX4 21 5 3 (.int) false := ⟨RX4, TX4, 4, "AccessGate$Right", tyX4, rfl, by decide, uin_5, fun U A h => Or.inl (mw_use h kw565 rfl), fun _ _ _ h => h, tyX4_ok, nmX4, by decide +kernel, rfl, fun h => nomatch h⟩
theorem fl_RX7_296 : mw_FL RX7 296 5 3 := ⟨RX4, TX4, 4, "AccessGate$Right", rfl, by decide, uin_5, fun U A h => Or.inr ⟨_, mw_use h kw566 rfl⟩, fun _ _ _ h => h⟩
theorem fp_RX7_296 : mw_FP RX7 296 5 3 (.int) false := ⟨RX4, TX4, 4, "AccessGate$Right", tyX4, rfl, by decide, uin_5, fun U A h => Or.inr ⟨rfl, _, mw_use h kw566 rfl⟩, fun _ _ _ h => h, tyX4_ok, nmX4, by decide +kernel, rfl, fun h => nomatch h⟩
theorem fl_RX5_22 : mw_FL RX5 22 6 0 := ⟨RX5, TX5, 6, "AccessGate$Session", rfl, by decide, uin_6, fun U A h => Or.inl (mw_use h kw639 rfl), fun _ _ _ h => h⟩
theorem fp_RX5_22 : mw_FP RX5 22 6 0 (.object "AccessGate$Person") true := ⟨RX5, TX5, 6, "AccessGate$Session", tyX5, rfl, by decide, uin_6, fun U A h => Or.inl (mw_use h kw639 rfl), fun _ _ _ h => h, tyX5_ok, nmX5, by decide +kernel, rfl, fun _ => rfl⟩
theorem fl_RX7_215 : mw_FL RX7 215 6 0 := ⟨RX5, TX5, 6, "AccessGate$Session", rfl, by decide, uin_6, fun U A h => Or.inr ⟨_, mw_use h kw640 rfl⟩, fun _ _ _ h => h⟩
theorem fl_RX5_26 : mw_FL RX5 26 6 1 := ⟨RX5, TX5, 6, "AccessGate$Session", rfl, by decide, uin_6, fun U A h => Or.inl (mw_use h kw641 rfl), fun _ _ _ h => h⟩
theorem fp_RX5_26 : mw_FP RX5 26 6 1 (.object "AccessGate$Machine") true := ⟨RX5, TX5, 6, "AccessGate$Session", tyX5, rfl, by decide, uin_6, fun U A h => Or.inl (mw_use h kw641 rfl), fun _ _ _ h => h, tyX5_ok, nmX5, by decide +kernel, rfl, fun _ => rfl⟩
theorem fl_RX7_216 : mw_FL RX7 216 6 1 := ⟨RX5, TX5, 6, "AccessGate$Session", rfl, by decide, uin_6, fun U A h => Or.inr ⟨_, mw_use h kw642 rfl⟩, fun _ _ _ h => h⟩
theorem fl_RX5_9 : mw_FL RX5 9 6 2 := ⟨RX5, TX5, 6, "AccessGate$Session", rfl, by decide, uin_6, fun U A h => Or.inl (mw_use h kw643 rfl), fun _ _ _ h => h⟩
theorem fp_RX5_9 : mw_FP RX5 9 6 2 (.boolean) false := ⟨RX5, TX5, 6, "AccessGate$Session", tyX5, rfl, by decide, uin_6, fun U A h => Or.inl (mw_use h kw643 rfl), fun _ _ _ h => h, tyX5_ok, nmX5, by decide +kernel, rfl, fun h => nomatch h⟩
theorem fl_RX7_237 : mw_FL RX7 237 6 2 := ⟨RX5, TX5, 6, "AccessGate$Session", rfl, by decide, uin_6, fun U A h => Or.inr ⟨_, mw_use h kw644 rfl⟩, fun _ _ _ h => h⟩
theorem fp_RX7_237 : mw_FP RX7 237 6 2 (.boolean) false := ⟨RX5, TX5, 6, "AccessGate$Session", tyX5, rfl, by decide, uin_6, fun U A h => Or.inr ⟨rfl, _, mw_use h kw644 rfl⟩, fun _ _ _ h => h, tyX5_ok, nmX5, by decide +kernel, rfl, fun h => nomatch h⟩
theorem fl_RX5_30 : mw_FL RX5 30 6 3 := ⟨RX5, TX5, 6, "AccessGate$Session", rfl, by decide, uin_6, fun U A h => Or.inl (mw_use h kw645 rfl), fun _ _ _ h => h⟩
theorem fp_RX5_30 : mw_FP RX5 30 6 3 (.int) false := ⟨RX5, TX5, 6, "AccessGate$Session", tyX5, rfl, by decide, uin_6, fun U A h => Or.inl (mw_use h kw645 rfl), fun _ _ _ h => h, tyX5_ok, nmX5, by decide +kernel, rfl, fun h => nomatch h⟩
theorem fl_RX7_217 : mw_FL RX7 217 6 3 := ⟨RX5, TX5, 6, "AccessGate$Session", rfl, by decide, uin_6, fun U A h => Or.inr ⟨_, mw_use h kw646 rfl⟩, fun _ _ _ h => h⟩
theorem fp_RX7_217 : mw_FP RX7 217 6 3 (.int) false := ⟨RX5, TX5, 6, "AccessGate$Session", tyX5, rfl, by decide, uin_6, fun U A h => Or.inr ⟨rfl, _, mw_use h kw646 rfl⟩, fun _ _ _ h => h, tyX5_ok, nmX5, by decide +kernel, rfl, fun h => nomatch h⟩
theorem fl_RX5_15 : mw_FL RX5 15 6 4 := ⟨RX5, TX5, 6, "AccessGate$Session", rfl, by decide, uin_6, fun U A h => Or.inl (mw_use h kw647 rfl), fun _ _ _ h => h⟩
theorem fp_RX5_15 : mw_FP RX5 15 6 4 (.int) false := ⟨RX5, TX5, 6, "AccessGate$Session", tyX5, rfl, by decide, uin_6, fun U A h => Or.inl (mw_use h kw647 rfl), fun _ _ _ h => h, tyX5_ok, nmX5, by decide +kernel, rfl, fun h => nomatch h⟩
theorem fl_RX7_223 : mw_FL RX7 223 6 4 := ⟨RX5, TX5, 6, "AccessGate$Session", rfl, by decide, uin_6, fun U A h => Or.inr ⟨_, mw_use h kw648 rfl⟩, fun _ _ _ h => h⟩
theorem fp_RX7_223 : mw_FP RX7 223 6 4 (.int) false := ⟨RX5, TX5, 6, "AccessGate$Session", tyX5, rfl, by decide, uin_6, fun U A h => Or.inr ⟨rfl, _, mw_use h kw648 rfl⟩, fun _ _ _ h => h, tyX5_ok, nmX5, by decide +kernel, rfl, fun h => nomatch h⟩
theorem fl_RX5_19 : mw_FL RX5 19 6 5 := ⟨RX5, TX5, 6, "AccessGate$Session", rfl, by decide, uin_6, fun U A h => Or.inl (mw_use h kw649 rfl), fun _ _ _ h => h⟩
theorem fp_RX5_19 : mw_FP RX5 19 6 5 (.int) false := ⟨RX5, TX5, 6, "AccessGate$Session", tyX5, rfl, by decide, uin_6, fun U A h => Or.inl (mw_use h kw649 rfl), fun _ _ _ h => h, tyX5_ok, nmX5, by decide +kernel, rfl, fun h => nomatch h⟩
theorem fl_RX7_220 : mw_FL RX7 220 6 5 := ⟨RX5, TX5, 6, "AccessGate$Session", rfl, by decide, uin_6, fun U A h => Or.inr ⟨_, mw_use h kw650 rfl⟩, fun _ _ _ h => h⟩
theorem fp_RX7_220 : mw_FP RX7 220 6 5 (.int) false := ⟨RX5, TX5, 6, "AccessGate$Session", tyX5, rfl, by decide, uin_6, fun U A h => Or.inr ⟨rfl, _, mw_use h kw650 rfl⟩, fun _ _ _ h => h, tyX5_ok, nmX5, by decide +kernel, rfl, fun h => nomatch h⟩
theorem tx_45_49 : mw_TX RX7 45 49 "java/lang/IllegalArgumentException" ["java/lang/RuntimeException", "java/lang/Exception"] := ⟨by decide, by decide, kw127, kw9, by decide +kernel⟩
theorem tx_56_60 : mw_TX RX7 56 60 "java/lang/IllegalStateException" ["java/lang/RuntimeException", "java/lang/Exception"] := ⟨by decide, by decide, kw199, kw10, by decide +kernel⟩
theorem tx_255_259 : mw_TX RX7 255 259 "java/lang/IndexOutOfBoundsException" ["java/lang/RuntimeException", "java/lang/Exception"] := ⟨by decide, by decide, kw300, kw16, by decide +kernel⟩
