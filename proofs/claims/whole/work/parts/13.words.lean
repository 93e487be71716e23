/-! the words of the tables, each by its place; what a call or a field needs of them -/
theorem mw_by {big ws : List Cond} (ps : List Nat) (hp : ws = ps.filterMap (fun i => big[i]?)) : ∀ w ∈ ws, w ∈ big := by
  intro w hw
  rw [hp] at hw
  obtain ⟨i, -, hi⟩ := List.mem_filterMap.mp hw
  exact List.mem_of_getElem? hi
theorem uin_0 : ∀ w ∈ u_ws RJx4a65c TJx4a65c 3, w ∈ lw_tbl := mw_by [101, 97, 99] (by decide +kernel)
theorem uin_1 : ∀ w ∈ u_ws RX0 TX0 6, w ∈ lw_tbl := mw_by [518, 520, 522, 524, 526, 528] (by decide +kernel)
theorem uin_2 : ∀ w ∈ u_ws RX1 TX1 4, w ∈ lw_tbl := mw_by [608, 610, 612, 614] (by decide +kernel)
theorem uin_3 : ∀ w ∈ u_ws RX2 TX2 2, w ∈ lw_tbl := mw_by [365, 367] (by decide +kernel)
theorem uin_4 : ∀ w ∈ u_ws RX3 TX3 3, w ∈ lw_tbl := mw_by [275, 277, 279] (by decide +kernel)
theorem uin_5 : ∀ w ∈ u_ws RX4 TX4 4, w ∈ lw_tbl := mw_by [566, 568, 570, 572] (by decide +kernel)
theorem uin_6 : ∀ w ∈ u_ws RX5 TX5 6, w ∈ lw_tbl := mw_by [671, 673, 675, 677, 679, 681] (by decide +kernel)
theorem uin_7 : ∀ w ∈ u_ws RX6 TX6 4, w ∈ lw_tbl := mw_by [117, 119, 121, 123] (by decide +kernel)
theorem uin_8 : ∀ w ∈ u_ws RX7 TX7 9, w ∈ lw_tbl := mw_by [136, 138, 140, 142, 144, 146, 148, 150, 152] (by decide +kernel)
theorem uin_9 : ∀ w ∈ u_ws RX8 TX8 34, w ∈ lw_tbl := mw_by [796, 798, 800, 802, 804, 806, 808, 810, 812, 814, 816, 818, 820, 822, 824, 826, 828, 830, 832, 834, 836, 838, 840, 842, 844, 846, 848, 850, 852, 854, 856, 858, 860, 862] (by decide +kernel)
theorem cb_RL_83 : mw_CB RL 83 yX7_init 0 := ⟨kw1, ⟨by decide, by decide⟩, by decide +kernel, kw27⟩
theorem cb_RX7_11 : mw_CB RX7 11 yJx4a65c_init_da8c8 0 := ⟨kw4, ⟨by decide, by decide⟩, by decide +kernel, kw35⟩
theorem cb_RJx4a65c_1 : mw_CB RJx4a65c 1 yJxc12de_init_da8c8 0 := ⟨kw3, ⟨by decide, by decide⟩, by decide +kernel, kw38⟩
theorem cb_RJxc12de_1 : mw_CB RJxc12de 1 yJxa1e45_init_da8c8 0 := ⟨kw2, ⟨by decide, by decide⟩, by decide +kernel, kw41⟩
theorem cn_RX7_33 : mw_CN RX7 33 yX6_init 0 := ⟨kw5, ⟨by decide, by decide⟩, by decide +kernel, _, kw61⟩
theorem cb_RL_149 : mw_CB RL 149 yX7_openSessions 0 := ⟨kw1, ⟨by decide, by decide⟩, by decide +kernel, kw110⟩
theorem cb_RL_156 : mw_CB RL 156 yX7_clock 0 := ⟨kw1, ⟨by decide, by decide⟩, by decide +kernel, kw114⟩
theorem cb_RL_160 : mw_CB RL 160 yX7_steps 0 := ⟨kw1, ⟨by decide, by decide⟩, by decide +kernel, kw118⟩
theorem cb_RL_87 : mw_CB RL 87 yL_addPerson 3 := ⟨kw0, ⟨by decide, by decide⟩, by decide +kernel, kw122⟩
theorem cb_RL_7 : mw_CB RL 7 yX7_addPerson 1 := ⟨kw1, ⟨by decide, by decide⟩, by decide +kernel, kw127⟩
theorem cb_RX7_52 : mw_CB RX7 52 yJx4a65c_size_8abf5 0 := ⟨kw4, ⟨by decide, by decide⟩, by decide +kernel, kw199⟩
theorem cn_RX7_63 : mw_CN RX7 63 yX3_init 2 := ⟨kw12, ⟨by decide, by decide⟩, by decide +kernel, _, kw221⟩
theorem cb_RX7_66 : mw_CB RX7 66 yJx4a65c_add_9ea2d 1 := ⟨kw4, ⟨by decide, by decide⟩, by decide +kernel, kw237⟩
theorem cb_RJx4a65c_131 : mw_CB RJx4a65c 131 yJx4a65c_add_72be8 3 := ⟨kw4, ⟨by decide, by decide⟩, by decide +kernel, kw241⟩
theorem cb_RJx4a65c_129 : mw_CB RJx4a65c 129 yJx4a65c_grow_d5877 0 := ⟨kw4, ⟨by decide, by decide⟩, by decide +kernel, kw245⟩
theorem cb_RJx4a65c_69 : mw_CB RJx4a65c 69 yJx4a65c_grow_92f84 1 := ⟨kw4, ⟨by decide, by decide⟩, by decide +kernel, kw249⟩
theorem cb_RJx4a65c_73 : mw_CB RJx4a65c 73 yJ8_newLength_cabcc 3 := ⟨kw13, ⟨by decide, by decide⟩, by decide +kernel, kw253⟩
theorem cb_RJ8_194 : mw_CB RJ8 194 yJ9_max_7cf53 2 := ⟨kw14, ⟨by decide, by decide⟩, by decide +kernel, kw256⟩
theorem cb_RJ8_201 : mw_CB RJ8 201 yJ8_hugeLength_7cf53 2 := ⟨kw13, ⟨by decide, by decide⟩, by decide +kernel, kw260⟩
theorem cb_RJx4a65c_66 : mw_CB RJx4a65c 66 yJ7_copyOf_1904c 2 := ⟨kw15, ⟨by decide, by decide⟩, by decide +kernel, kw263⟩
theorem cb_RJ7_300 : mw_CB RJ7 300 yJ7_copyOf_6403c 3 := ⟨kw15, ⟨by decide, by decide⟩, by decide +kernel, kw283⟩
theorem cb_RJ7_304 : mw_CB RJ7 304 yJ9_min_7cf53 2 := ⟨kw14, ⟨by decide, by decide⟩, by decide +kernel, kw289⟩
theorem cb_RJx4a65c_79 : mw_CB RJx4a65c 79 yJ9_max_7cf53 2 := ⟨kw14, ⟨by decide, by decide⟩, by decide +kernel, kw295⟩
theorem cb_RL_97 : mw_CB RL 97 yL_addMachine 3 := ⟨kw0, ⟨by decide, by decide⟩, by decide +kernel, kw297⟩
theorem cb_RL_17 : mw_CB RL 17 yX7_addMachine 1 := ⟨kw1, ⟨by decide, by decide⟩, by decide +kernel, kw300⟩
theorem cb_RX7_70 : mw_CB RX7 70 yX7_requireLabel 1 := ⟨kw1, ⟨by decide, by decide⟩, by decide +kernel, kw304⟩
theorem cn_RX7_78 : mw_CN RX7 78 yX2_init 2 := ⟨kw17, ⟨by decide, by decide⟩, by decide +kernel, _, kw311⟩
theorem cb_RL_100 : mw_CB RL 100 yL_setLabel 5 := ⟨kw0, ⟨by decide, by decide⟩, by decide +kernel, kw325⟩
theorem cb_RL_20 : mw_CB RL 20 yX7_setLabel 3 := ⟨kw1, ⟨by decide, by decide⟩, by decide +kernel, kw329⟩
theorem cb_RX7_79 : mw_CB RX7 79 yX7_personAt 1 := ⟨kw1, ⟨by decide, by decide⟩, by decide +kernel, kw333⟩
theorem cb_RX7_87 : mw_CB RX7 87 yJx4a65c_get_915e3 1 := ⟨kw4, ⟨by decide, by decide⟩, by decide +kernel, kw353⟩
theorem cb_RJx4a65c_118 : mw_CB RJx4a65c 118 yJ15_checkIndex_7cf53 2 := ⟨kw19, ⟨by decide, by decide⟩, by decide +kernel, kw357⟩
theorem cb_RJ15_105 : mw_CB RJ15 105 yJ3_checkIndex_8e157 3 := ⟨kw20, ⟨by decide, by decide⟩, by decide +kernel, kw360⟩
theorem cb_RJx4a65c_123 : mw_CB RJx4a65c 123 yJx4a65c_elementData_915e3 1 := ⟨kw4, ⟨by decide, by decide⟩, by decide +kernel, kw363⟩
theorem cn_RX7_83 : mw_CN RX7 83 yX3_keepLabel 2 := ⟨kw12, ⟨by decide, by decide⟩, by decide +kernel, _, kw367⟩
theorem cb_RX7_94 : mw_CB RX7 94 yX7_endRights 2 := ⟨kw1, ⟨by decide, by decide⟩, by decide +kernel, kw371⟩
theorem cn_RX7_293 : mw_CN RX7 293 yX4_holdsAt 1 := ⟨kw22, ⟨by decide, by decide⟩, by decide +kernel, _, kw376⟩
theorem cb_RX7_98 : mw_CB RX7 98 yX7_denyWaitingAsks 2 := ⟨kw1, ⟨by decide, by decide⟩, by decide +kernel, kw381⟩
theorem cn_RX7_154 : mw_CN RX7 154 yX0_stateAt 1 := ⟨kw21, ⟨by decide, by decide⟩, by decide +kernel, _, kw386⟩
theorem cb_RX7_101 : mw_CB RX7 101 yX7_closeEndedSessions 0 := ⟨kw1, ⟨by decide, by decide⟩, by decide +kernel, kw391⟩
theorem cn_RX7_299 : mw_CN RX7 299 yX5_restsAt 1 := ⟨kw24, ⟨by decide, by decide⟩, by decide +kernel, _, kw396⟩
theorem cb_RX7_190 : mw_CB RX7 190 yX7_rightHolds 3 := ⟨kw1, ⟨by decide, by decide⟩, by decide +kernel, kw401⟩
theorem cb_RX7_234 : mw_CB RX7 234 yX7_endSession 1 := ⟨kw1, ⟨by decide, by decide⟩, by decide +kernel, kw405⟩
theorem cn_RX7_121 : mw_CN RX7 121 yX6_add 4 := ⟨kw5, ⟨by decide, by decide⟩, by decide +kernel, _, kw409⟩
theorem cb_RL_104 : mw_CB RL 104 yL_takeAway 4 := ⟨kw0, ⟨by decide, by decide⟩, by decide +kernel, kw414⟩
theorem cb_RL_26 : mw_CB RL 26 yX7_takeAway 2 := ⟨kw1, ⟨by decide, by decide⟩, by decide +kernel, kw417⟩
theorem cb_RX7_104 : mw_CB RX7 104 yX7_machineAt 1 := ⟨kw1, ⟨by decide, by decide⟩, by decide +kernel, kw421⟩
theorem cb_RL_108 : mw_CB RL 108 yL_ask 5 := ⟨kw0, ⟨by decide, by decide⟩, by decide +kernel, kw426⟩
theorem cb_RL_30 : mw_CB RL 30 yX7_ask 3 := ⟨kw1, ⟨by decide, by decide⟩, by decide +kernel, kw429⟩
theorem cb_RX7_110 : mw_CB RX7 110 yX7_requireMayAskOrEnter 2 := ⟨kw1, ⟨by decide, by decide⟩, by decide +kernel, kw434⟩
theorem cn_RX7_276 : mw_CN RX7 276 yX3_hasLabel 1 := ⟨kw12, ⟨by decide, by decide⟩, by decide +kernel, _, kw438⟩
theorem cb_RX7_183 : mw_CB RX7 183 yX7_countOverdue 1 := ⟨kw1, ⟨by decide, by decide⟩, by decide +kernel, kw443⟩
theorem cn_RX7_288 : mw_CN RX7 288 yX1_isOverdueAt 1 := ⟨kw23, ⟨by decide, by decide⟩, by decide +kernel, _, kw448⟩
theorem cb_RX7_113 : mw_CB RX7 113 yX7_requireRoomFor 1 := ⟨kw1, ⟨by decide, by decide⟩, by decide +kernel, kw454⟩
theorem cn_RX7_118 : mw_CN RX7 118 yX0_init 4 := ⟨kw21, ⟨by decide, by decide⟩, by decide +kernel, _, kw458⟩
theorem cb_RL_112 : mw_CB RL 112 yL_approve 4 := ⟨kw0, ⟨by decide, by decide⟩, by decide +kernel, kw486⟩
theorem cb_RL_34 : mw_CB RL 34 yX7_approve 2 := ⟨kw1, ⟨by decide, by decide⟩, by decide +kernel, kw489⟩
theorem cb_RX7_124 : mw_CB RX7 124 yX7_askAt 1 := ⟨kw1, ⟨by decide, by decide⟩, by decide +kernel, kw493⟩
theorem cb_RX7_128 : mw_CB RX7 128 yX7_requireMayJudge 2 := ⟨kw1, ⟨by decide, by decide⟩, by decide +kernel, kw498⟩
theorem cn_RX7_228 : mw_CN RX7 228 yX3_mayJudge 2 := ⟨kw12, ⟨by decide, by decide⟩, by decide +kernel, _, kw503⟩
theorem cb_RX3_24 : mw_CB RX3 24 yX3_hasLabel 1 := ⟨kw12, ⟨by decide, by decide⟩, by decide +kernel, kw507⟩
theorem cn_RX7_153 : mw_CN RX7 153 yX4_init 4 := ⟨kw22, ⟨by decide, by decide⟩, by decide +kernel, _, kw510⟩
theorem cb_RL_115 : mw_CB RL 115 yL_deny 3 := ⟨kw0, ⟨by decide, by decide⟩, by decide +kernel, kw530⟩
theorem cb_RL_38 : mw_CB RL 38 yX7_deny 2 := ⟨kw1, ⟨by decide, by decide⟩, by decide +kernel, kw533⟩
theorem cb_RL_119 : mw_CB RL 119 yL_askState 3 := ⟨kw0, ⟨by decide, by decide⟩, by decide +kernel, kw537⟩
theorem cb_RL_42 : mw_CB RL 42 yX7_askState 1 := ⟨kw1, ⟨by decide, by decide⟩, by decide +kernel, kw540⟩
theorem cb_RL_122 : mw_CB RL 122 yL_enter 4 := ⟨kw0, ⟨by decide, by decide⟩, by decide +kernel, kw544⟩
theorem cb_RL_45 : mw_CB RL 45 yX7_enter 2 := ⟨kw1, ⟨by decide, by decide⟩, by decide +kernel, kw547⟩
theorem cn_RX7_160 : mw_CN RX7 160 yX1_init 3 := ⟨kw23, ⟨by decide, by decide⟩, by decide +kernel, _, kw551⟩
theorem cb_RL_125 : mw_CB RL 125 yL_lookAt 4 := ⟨kw0, ⟨by decide, by decide⟩, by decide +kernel, kw572⟩
theorem cb_RL_48 : mw_CB RL 48 yX7_lookAt 2 := ⟨kw1, ⟨by decide, by decide⟩, by decide +kernel, kw575⟩
theorem cb_RX7_163 : mw_CB RX7 163 yX7_entryAt 1 := ⟨kw1, ⟨by decide, by decide⟩, by decide +kernel, kw579⟩
theorem cb_RL_128 : mw_CB RL 128 yL_overdue 3 := ⟨kw0, ⟨by decide, by decide⟩, by decide +kernel, kw586⟩
theorem cb_RL_51 : mw_CB RL 51 yX7_overdue 1 := ⟨kw1, ⟨by decide, by decide⟩, by decide +kernel, kw589⟩
theorem cb_RL_131 : mw_CB RL 131 yL_couldEnter 5 := ⟨kw0, ⟨by decide, by decide⟩, by decide +kernel, kw593⟩
theorem cb_RL_54 : mw_CB RL 54 yX7_couldEnter 3 := ⟨kw1, ⟨by decide, by decide⟩, by decide +kernel, kw596⟩
theorem cb_RL_134 : mw_CB RL 134 yL_open 4 := ⟨kw0, ⟨by decide, by decide⟩, by decide +kernel, kw602⟩
theorem cb_RL_58 : mw_CB RL 58 yX7_open 2 := ⟨kw1, ⟨by decide, by decide⟩, by decide +kernel, kw605⟩
theorem cn_RX7_198 : mw_CN RX7 198 yX5_init 3 := ⟨kw24, ⟨by decide, by decide⟩, by decide +kernel, _, kw610⟩
theorem cb_RL_137 : mw_CB RL 137 yL_type 4 := ⟨kw0, ⟨by decide, by decide⟩, by decide +kernel, kw639⟩
theorem cb_RL_61 : mw_CB RL 61 yX7_type 2 := ⟨kw1, ⟨by decide, by decide⟩, by decide +kernel, kw642⟩
theorem cb_RX7_199 : mw_CB RX7 199 yX7_sessionAt 1 := ⟨kw1, ⟨by decide, by decide⟩, by decide +kernel, kw646⟩
theorem cb_RX7_205 : mw_CB RX7 205 yX7_requireOpen 1 := ⟨kw1, ⟨by decide, by decide⟩, by decide +kernel, kw652⟩
theorem cn_RX7_209 : mw_CN RX7 209 yX5_holdsLine 0 := ⟨kw24, ⟨by decide, by decide⟩, by decide +kernel, _, kw656⟩
theorem cb_RL_140 : mw_CB RL 140 yL_letThrough 4 := ⟨kw0, ⟨by decide, by decide⟩, by decide +kernel, kw661⟩
theorem cb_RL_64 : mw_CB RL 64 yX7_letThrough 2 := ⟨kw1, ⟨by decide, by decide⟩, by decide +kernel, kw664⟩
theorem cb_RL_143 : mw_CB RL 143 yL_close 3 := ⟨kw0, ⟨by decide, by decide⟩, by decide +kernel, kw670⟩
theorem cb_RL_67 : mw_CB RL 67 yX7_close 1 := ⟨kw1, ⟨by decide, by decide⟩, by decide +kernel, kw673⟩
theorem cb_RL_146 : mw_CB RL 146 yL_isOpen 3 := ⟨kw0, ⟨by decide, by decide⟩, by decide +kernel, kw677⟩
theorem cb_RL_70 : mw_CB RL 70 yX7_isOpen 1 := ⟨kw1, ⟨by decide, by decide⟩, by decide +kernel, kw680⟩
theorem cb_RL_153 : mw_CB RL 153 yL_pass 3 := ⟨kw0, ⟨by decide, by decide⟩, by decide +kernel, kw684⟩
theorem cb_RL_74 : mw_CB RL 74 yX7_pass 1 := ⟨kw1, ⟨by decide, by decide⟩, by decide +kernel, kw687⟩
theorem cb_RL_164 : mw_CB RL 164 yL_kind 3 := ⟨kw0, ⟨by decide, by decide⟩, by decide +kernel, kw692⟩
theorem cb_RL_77 : mw_CB RL 77 yX7_kind 1 := ⟨kw1, ⟨by decide, by decide⟩, by decide +kernel, kw695⟩
theorem cb_RX7_245 : mw_CB RX7 245 yX7_requireStep 1 := ⟨kw1, ⟨by decide, by decide⟩, by decide +kernel, kw699⟩
theorem cb_RL_167 : mw_CB RL 167 yL_seal 3 := ⟨kw0, ⟨by decide, by decide⟩, by decide +kernel, kw704⟩
theorem cb_RL_80 : mw_CB RL 80 yX7_seal 1 := ⟨kw1, ⟨by decide, by decide⟩, by decide +kernel, kw707⟩
theorem cb_RL_86 : mw_CB RL 86 yX8_init 0 := ⟨kw6, ⟨by decide, by decide⟩, by decide +kernel, kw713⟩
theorem cb_RL_93 : mw_CB RL 93 yX8_thrown 0 := ⟨kw6, ⟨by decide, by decide⟩, by decide +kernel, kw821⟩
theorem cb_RL_92 : mw_CB RL 92 yX8_addPerson 1 := ⟨kw6, ⟨by decide, by decide⟩, by decide +kernel, kw825⟩
theorem cb_RX8_93 : mw_CB RX8 93 yX8_in 3 := ⟨kw6, ⟨by decide, by decide⟩, by decide +kernel, kw829⟩
theorem cb_RX8_123 : mw_CB RX8 123 yX8_goes 3 := ⟨kw6, ⟨by decide, by decide⟩, by decide +kernel, kw832⟩
theorem cb_RL_99 : mw_CB RL 99 yX8_addMachine 1 := ⟨kw6, ⟨by decide, by decide⟩, by decide +kernel, kw836⟩
theorem cb_RL_103 : mw_CB RL 103 yX8_setLabel 3 := ⟨kw6, ⟨by decide, by decide⟩, by decide +kernel, kw840⟩
theorem cb_RX8_100 : mw_CB RX8 100 yX8_isPerson 1 := ⟨kw6, ⟨by decide, by decide⟩, by decide +kernel, kw844⟩
theorem cb_RX8_141 : mw_CB RX8 141 yX8_endsRights 2 := ⟨kw6, ⟨by decide, by decide⟩, by decide +kernel, kw848⟩
theorem cb_RX8_145 : mw_CB RX8 145 yX8_deniesAsks 2 := ⟨kw6, ⟨by decide, by decide⟩, by decide +kernel, kw852⟩
theorem cb_RX8_148 : mw_CB RX8 148 yX8_closes 1 := ⟨kw6, ⟨by decide, by decide⟩, by decide +kernel, kw856⟩
theorem cb_RX8_134 : mw_CB RX8 134 yX8_holdsAt 3 := ⟨kw6, ⟨by decide, by decide⟩, by decide +kernel, kw860⟩
theorem cb_RX8_137 : mw_CB RX8 137 yX8_shuts 1 := ⟨kw6, ⟨by decide, by decide⟩, by decide +kernel, kw864⟩
theorem cb_RX8_130 : mw_CB RX8 130 yX8_writes 3 := ⟨kw6, ⟨by decide, by decide⟩, by decide +kernel, kw868⟩
theorem cb_RL_107 : mw_CB RL 107 yX8_takeAway 2 := ⟨kw6, ⟨by decide, by decide⟩, by decide +kernel, kw873⟩
theorem cb_RX8_152 : mw_CB RX8 152 yX8_areBoth 2 := ⟨kw6, ⟨by decide, by decide⟩, by decide +kernel, kw877⟩
theorem cb_RX8_104 : mw_CB RX8 104 yX8_isMachine 1 := ⟨kw6, ⟨by decide, by decide⟩, by decide +kernel, kw881⟩
theorem cb_RL_111 : mw_CB RL 111 yX8_ask 3 := ⟨kw6, ⟨by decide, by decide⟩, by decide +kernel, kw885⟩
theorem cb_RX8_162 : mw_CB RX8 162 yX8_canAsk 2 := ⟨kw6, ⟨by decide, by decide⟩, by decide +kernel, kw889⟩
theorem cb_RX8_156 : mw_CB RX8 156 yX8_hasLabel 2 := ⟨kw6, ⟨by decide, by decide⟩, by decide +kernel, kw893⟩
theorem cb_RX8_159 : mw_CB RX8 159 yX8_overdues 1 := ⟨kw6, ⟨by decide, by decide⟩, by decide +kernel, kw897⟩
theorem cb_RL_114 : mw_CB RL 114 yX8_approve 2 := ⟨kw6, ⟨by decide, by decide⟩, by decide +kernel, kw901⟩
theorem cb_RX8_168 : mw_CB RX8 168 yX8_canJudge 2 := ⟨kw6, ⟨by decide, by decide⟩, by decide +kernel, kw905⟩
theorem cb_RX8_165 : mw_CB RX8 165 yX8_isAsk 1 := ⟨kw6, ⟨by decide, by decide⟩, by decide +kernel, kw909⟩
theorem cb_RX8_171 : mw_CB RX8 171 yX8_grants 3 := ⟨kw6, ⟨by decide, by decide⟩, by decide +kernel, kw913⟩
theorem cb_RL_118 : mw_CB RL 118 yX8_deny 2 := ⟨kw6, ⟨by decide, by decide⟩, by decide +kernel, kw917⟩
theorem cb_RL_121 : mw_CB RL 121 yX8_askState 1 := ⟨kw6, ⟨by decide, by decide⟩, by decide +kernel, kw921⟩
theorem cb_RL_124 : mw_CB RL 124 yX8_enter 2 := ⟨kw6, ⟨by decide, by decide⟩, by decide +kernel, kw925⟩
theorem cb_RL_127 : mw_CB RL 127 yX8_lookAt 2 := ⟨kw6, ⟨by decide, by decide⟩, by decide +kernel, kw929⟩
theorem cb_RX8_174 : mw_CB RX8 174 yX8_isEntry 1 := ⟨kw6, ⟨by decide, by decide⟩, by decide +kernel, kw933⟩
theorem cb_RL_130 : mw_CB RL 130 yX8_overdue 1 := ⟨kw6, ⟨by decide, by decide⟩, by decide +kernel, kw937⟩
theorem cb_RL_133 : mw_CB RL 133 yX8_couldEnter 3 := ⟨kw6, ⟨by decide, by decide⟩, by decide +kernel, kw941⟩
theorem cb_RL_136 : mw_CB RL 136 yX8_open 2 := ⟨kw6, ⟨by decide, by decide⟩, by decide +kernel, kw946⟩
theorem cb_RL_139 : mw_CB RL 139 yX8_type 2 := ⟨kw6, ⟨by decide, by decide⟩, by decide +kernel, kw950⟩
theorem cb_RX8_178 : mw_CB RX8 178 yX8_isSession 1 := ⟨kw6, ⟨by decide, by decide⟩, by decide +kernel, kw954⟩
theorem cb_RL_142 : mw_CB RL 142 yX8_letThrough 2 := ⟨kw6, ⟨by decide, by decide⟩, by decide +kernel, kw958⟩
theorem cb_RL_145 : mw_CB RL 145 yX8_close 1 := ⟨kw6, ⟨by decide, by decide⟩, by decide +kernel, kw962⟩
theorem cb_RL_148 : mw_CB RL 148 yX8_isOpen 1 := ⟨kw6, ⟨by decide, by decide⟩, by decide +kernel, kw966⟩
theorem cb_RL_152 : mw_CB RL 152 yX8_openSessions 0 := ⟨kw6, ⟨by decide, by decide⟩, by decide +kernel, kw970⟩
theorem cb_RL_155 : mw_CB RL 155 yX8_pass 1 := ⟨kw6, ⟨by decide, by decide⟩, by decide +kernel, kw974⟩
theorem cb_RL_159 : mw_CB RL 159 yX8_clock 0 := ⟨kw6, ⟨by decide, by decide⟩, by decide +kernel, kw978⟩
theorem cb_RL_163 : mw_CB RL 163 yX8_steps 0 := ⟨kw6, ⟨by decide, by decide⟩, by decide +kernel, kw982⟩
theorem cb_RL_166 : mw_CB RL 166 yX8_kind 1 := ⟨kw6, ⟨by decide, by decide⟩, by decide +kernel, kw986⟩
theorem cb_RL_169 : mw_CB RL 169 yX8_seal 1 := ⟨kw6, ⟨by decide, by decide⟩, by decide +kernel, kw990⟩
theorem fl_RJx4a65c_9 : mw_FL RJx4a65c 9 0 1 := ⟨RJx4a65c, TJx4a65c, 3, "java/util/ArrayList", rfl, by decide, uin_0, fun U A h => Or.inl (mw_use h kw47 rfl), fun _ _ _ h => h⟩
theorem fp_RJx4a65c_9 : mw_FP RJx4a65c 9 0 1 (.array (.object "java/lang/Object")) false := ⟨RJx4a65c, TJx4a65c, 3, "java/util/ArrayList", tyJx4a65c, rfl, by decide, uin_0, fun U A h => Or.inl (mw_use h kw47 rfl), fun _ _ _ h => h, tyJx4a65c_ok, nmJx4a65c, by decide +kernel, rfl, fun h => nomatch h⟩
theorem fl_RJx4a65c_48 : mw_FL RJx4a65c 48 0 2 := ⟨RJx4a65c, TJx4a65c, 3, "java/util/ArrayList", rfl, by decide, uin_0, fun U A h => Or.inl (mw_use h kw48 rfl), fun _ _ _ h => h⟩
theorem fp_RJx4a65c_48 : mw_FP RJx4a65c 48 0 2 (.int) false := ⟨RJx4a65c, TJx4a65c, 3, "java/util/ArrayList", tyJx4a65c, rfl, by decide, uin_0, fun U A h => Or.inl (mw_use h kw48 rfl), fun _ _ _ h => h, tyJx4a65c_ok, nmJx4a65c, by decide +kernel, rfl, fun h => nomatch h⟩
theorem fl_RJxc12de_7 : mw_FL RJxc12de 7 0 0 := ⟨RJx4a65c, TJx4a65c, 3, "java/util/AbstractList", rfl, by decide, uin_0, fun U A h => Or.inl (mw_use h kw49 rfl), fun _ _ _ h => h⟩
theorem fp_RJxc12de_7 : mw_FP RJxc12de 7 0 0 (.int) false := ⟨RJx4a65c, TJx4a65c, 3, "java/util/AbstractList", tyJx4a65c, rfl, by decide, uin_0, fun U A h => Or.inl (mw_use h kw49 rfl), fun _ _ _ h => h, tyJx4a65c_ok, nmJx4a65c, by decide +kernel, rfl, fun h => nomatch h⟩
theorem fl_RJx4a65c_63 : mw_FL RJx4a65c 63 0 0 := ⟨RJx4a65c, TJx4a65c, 3, "java/util/ArrayList", rfl, by decide, uin_0, fun U A h => Or.inl (mw_use h kw50 rfl), fun U x h hx => u_same (args := #[]) (mw_use h kw51 rfl) x hx⟩
theorem fp_RJx4a65c_63 : mw_FP RJx4a65c 63 0 0 (.int) false := ⟨RJx4a65c, TJx4a65c, 3, "java/util/ArrayList", tyJx4a65c, rfl, by decide, uin_0, fun U A h => Or.inl (mw_use h kw50 rfl), fun U x h hx => u_same (args := #[]) (mw_use h kw51 rfl) x hx, tyJx4a65c_ok, nmJx4a65c, by decide +kernel, rfl, fun h => nomatch h⟩
theorem fl_RX6_9 : mw_FL RX6 9 7 0 := ⟨RX6, TX6, 4, "AccessGate$StepRecord", rfl, by decide, uin_7, fun U A h => Or.inl (mw_use h kw65 rfl), fun _ _ _ h => h⟩
theorem fp_RX6_9 : mw_FP RX6 9 7 0 (.array .int) true := ⟨RX6, TX6, 4, "AccessGate$StepRecord", tyX6, rfl, by decide, uin_7, fun U A h => Or.inl (mw_use h kw65 rfl), fun _ _ _ h => h, tyX6_ok, nmX6, by decide +kernel, rfl, fun _ => rfl⟩
theorem fl_RX7_248 : mw_FL RX7 248 7 0 := ⟨RX6, TX6, 4, "AccessGate$StepRecord", rfl, by decide, uin_7, fun U A h => Or.inr ⟨_, mw_use h kw66 rfl⟩, fun _ _ _ h => h⟩
theorem fl_RX6_15 : mw_FL RX6 15 7 1 := ⟨RX6, TX6, 4, "AccessGate$StepRecord", rfl, by decide, uin_7, fun U A h => Or.inl (mw_use h kw67 rfl), fun _ _ _ h => h⟩
theorem fp_RX6_15 : mw_FP RX6 15 7 1 (.array .int) true := ⟨RX6, TX6, 4, "AccessGate$StepRecord", tyX6, rfl, by decide, uin_7, fun U A h => Or.inl (mw_use h kw67 rfl), fun _ _ _ h => h, tyX6_ok, nmX6, by decide +kernel, rfl, fun _ => rfl⟩
theorem fl_RX7_252 : mw_FL RX7 252 7 1 := ⟨RX6, TX6, 4, "AccessGate$StepRecord", rfl, by decide, uin_7, fun U A h => Or.inr ⟨_, mw_use h kw68 rfl⟩, fun _ _ _ h => h⟩
theorem fl_RX6_18 : mw_FL RX6 18 7 2 := ⟨RX6, TX6, 4, "AccessGate$StepRecord", rfl, by decide, uin_7, fun U A h => Or.inl (mw_use h kw69 rfl), fun _ _ _ h => h⟩
theorem fp_RX6_18 : mw_FP RX6 18 7 2 (.int) false := ⟨RX6, TX6, 4, "AccessGate$StepRecord", tyX6, rfl, by decide, uin_7, fun U A h => Or.inl (mw_use h kw69 rfl), fun _ _ _ h => h, tyX6_ok, nmX6, by decide +kernel, rfl, fun h => nomatch h⟩
theorem fl_RX7_242 : mw_FL RX7 242 7 2 := ⟨RX6, TX6, 4, "AccessGate$StepRecord", rfl, by decide, uin_7, fun U A h => Or.inr ⟨_, mw_use h kw70 rfl⟩, fun _ _ _ h => h⟩
theorem fp_RX7_242 : mw_FP RX7 242 7 2 (.int) false := ⟨RX6, TX6, 4, "AccessGate$StepRecord", tyX6, rfl, by decide, uin_7, fun U A h => Or.inr ⟨rfl, _, mw_use h kw70 rfl⟩, fun _ _ _ h => h, tyX6_ok, nmX6, by decide +kernel, rfl, fun h => nomatch h⟩
theorem fl_RX6_22 : mw_FL RX6 22 7 3 := ⟨RX6, TX6, 4, "AccessGate$StepRecord", rfl, by decide, uin_7, fun U A h => Or.inl (mw_use h kw71 rfl), fun _ _ _ h => h⟩
theorem fp_RX6_22 : mw_FP RX6 22 7 3 (.int) false := ⟨RX6, TX6, 4, "AccessGate$StepRecord", tyX6, rfl, by decide, uin_7, fun U A h => Or.inl (mw_use h kw71 rfl), fun _ _ _ h => h, tyX6_ok, nmX6, by decide +kernel, rfl, fun h => nomatch h⟩
theorem fl_RX7_12 : mw_FL RX7 12 8 0 := ⟨RX7, TX7, 9, "AccessGate", rfl, by decide, uin_8, fun U A h => Or.inl (mw_use h kw82 rfl), fun _ _ _ h => h⟩
theorem fp_RX7_12 : mw_FP RX7 12 8 0 (.object "java/util/ArrayList") true := ⟨RX7, TX7, 9, "AccessGate", tyX7, rfl, by decide, uin_8, fun U A h => Or.inl (mw_use h kw82 rfl), fun _ _ _ h => h, tyX7_ok, nmX7, by decide +kernel, rfl, fun _ => rfl⟩
theorem fl_RX7_16 : mw_FL RX7 16 8 1 := ⟨RX7, TX7, 9, "AccessGate", rfl, by decide, uin_8, fun U A h => Or.inl (mw_use h kw83 rfl), fun _ _ _ h => h⟩
theorem fp_RX7_16 : mw_FP RX7 16 8 1 (.object "java/util/ArrayList") true := ⟨RX7, TX7, 9, "AccessGate", tyX7, rfl, by decide, uin_8, fun U A h => Or.inl (mw_use h kw83 rfl), fun _ _ _ h => h, tyX7_ok, nmX7, by decide +kernel, rfl, fun _ => rfl⟩
theorem fl_RX7_19 : mw_FL RX7 19 8 2 := ⟨RX7, TX7, 9, "AccessGate", rfl, by decide, uin_8, fun U A h => Or.inl (mw_use h kw84 rfl), fun _ _ _ h => h⟩
theorem fp_RX7_19 : mw_FP RX7 19 8 2 (.object "java/util/ArrayList") true := ⟨RX7, TX7, 9, "AccessGate", tyX7, rfl, by decide, uin_8, fun U A h => Or.inl (mw_use h kw84 rfl), fun _ _ _ h => h, tyX7_ok, nmX7, by decide +kernel, rfl, fun _ => rfl⟩
theorem fl_RX7_22 : mw_FL RX7 22 8 3 := ⟨RX7, TX7, 9, "AccessGate", rfl, by decide, uin_8, fun U A h => Or.inl (mw_use h kw85 rfl), fun _ _ _ h => h⟩
theorem fp_RX7_22 : mw_FP RX7 22 8 3 (.object "java/util/ArrayList") true := ⟨RX7, TX7, 9, "AccessGate", tyX7, rfl, by decide, uin_8, fun U A h => Or.inl (mw_use h kw85 rfl), fun _ _ _ h => h, tyX7_ok, nmX7, by decide +kernel, rfl, fun _ => rfl⟩
theorem fl_RX7_25 : mw_FL RX7 25 8 4 := ⟨RX7, TX7, 9, "AccessGate", rfl, by decide, uin_8, fun U A h => Or.inl (mw_use h kw86 rfl), fun _ _ _ h => h⟩
theorem fp_RX7_25 : mw_FP RX7 25 8 4 (.object "java/util/ArrayList") true := ⟨RX7, TX7, 9, "AccessGate", tyX7, rfl, by decide, uin_8, fun U A h => Or.inl (mw_use h kw86 rfl), fun _ _ _ h => h, tyX7_ok, nmX7, by decide +kernel, rfl, fun _ => rfl⟩
theorem fl_RX7_28 : mw_FL RX7 28 8 5 := ⟨RX7, TX7, 9, "AccessGate", rfl, by decide, uin_8, fun U A h => Or.inl (mw_use h kw87 rfl), fun _ _ _ h => h⟩
theorem fp_RX7_28 : mw_FP RX7 28 8 5 (.object "java/util/ArrayList") true := ⟨RX7, TX7, 9, "AccessGate", tyX7, rfl, by decide, uin_8, fun U A h => Or.inl (mw_use h kw87 rfl), fun _ _ _ h => h, tyX7_ok, nmX7, by decide +kernel, rfl, fun _ => rfl⟩
theorem fl_RX7_34 : mw_FL RX7 34 8 6 := ⟨RX7, TX7, 9, "AccessGate", rfl, by decide, uin_8, fun U A h => Or.inl (mw_use h kw88 rfl), fun _ _ _ h => h⟩
theorem fp_RX7_34 : mw_FP RX7 34 8 6 (.object "AccessGate$StepRecord") true := ⟨RX7, TX7, 9, "AccessGate", tyX7, rfl, by decide, uin_8, fun U A h => Or.inl (mw_use h kw88 rfl), fun _ _ _ h => h, tyX7_ok, nmX7, by decide +kernel, rfl, fun _ => rfl⟩
theorem fl_RX7_38 : mw_FL RX7 38 8 7 := ⟨RX7, TX7, 9, "AccessGate", rfl, by decide, uin_8, fun U A h => Or.inl (mw_use h kw89 rfl), fun _ _ _ h => h⟩
theorem fp_RX7_38 : mw_FP RX7 38 8 7 (.int) false := ⟨RX7, TX7, 9, "AccessGate", tyX7, rfl, by decide, uin_8, fun U A h => Or.inl (mw_use h kw89 rfl), fun _ _ _ h => h, tyX7_ok, nmX7, by decide +kernel, rfl, fun h => nomatch h⟩
theorem fl_RX7_42 : mw_FL RX7 42 8 8 := ⟨RX7, TX7, 9, "AccessGate", rfl, by decide, uin_8, fun U A h => Or.inl (mw_use h kw90 rfl), fun _ _ _ h => h⟩
theorem fp_RX7_42 : mw_FP RX7 42 8 8 (.int) false := ⟨RX7, TX7, 9, "AccessGate", tyX7, rfl, by decide, uin_8, fun U A h => Or.inl (mw_use h kw90 rfl), fun _ _ _ h => h, tyX7_ok, nmX7, by decide +kernel, rfl, fun h => nomatch h⟩
theorem fl_RX3_13 : mw_FL RX3 13 4 0 := ⟨RX3, TX3, 3, "AccessGate$Person", rfl, by decide, uin_4, fun U A h => Or.inl (mw_use h kw225 rfl), fun _ _ _ h => h⟩
theorem fp_RX3_13 : mw_FP RX3 13 4 0 (.int) true := ⟨RX3, TX3, 3, "AccessGate$Person", tyX3, rfl, by decide, uin_4, fun U A h => Or.inl (mw_use h kw225 rfl), fun _ _ _ h => h, tyX3_ok, nmX3, by decide +kernel, rfl, fun _ => rfl⟩
theorem fl_RX6_25 : mw_FL RX6 25 4 0 := ⟨RX3, TX3, 3, "AccessGate$Person", rfl, by decide, uin_4, fun U A h => Or.inr ⟨_, mw_use h kw226 rfl⟩, fun _ _ _ h => h⟩
theorem fl_RX3_16 : mw_FL RX3 16 4 1 := ⟨RX3, TX3, 3, "AccessGate$Person", rfl, by decide, uin_4, fun U A h => Or.inl (mw_use h kw227 rfl), fun _ _ _ h => h⟩
theorem fp_RX3_16 : mw_FP RX3 16 4 1 (.int) true := ⟨RX3, TX3, 3, "AccessGate$Person", tyX3, rfl, by decide, uin_4, fun U A h => Or.inl (mw_use h kw227 rfl), fun _ _ _ h => h, tyX3_ok, nmX3, by decide +kernel, rfl, fun _ => rfl⟩
theorem fl_RX7_173 : mw_FL RX7 173 4 1 := ⟨RX3, TX3, 3, "AccessGate$Person", rfl, by decide, uin_4, fun U A h => Or.inr ⟨_, mw_use h kw228 rfl⟩, fun _ _ _ h => h⟩
theorem fl_RX3_7 : mw_FL RX3 7 4 2 := ⟨RX3, TX3, 3, "AccessGate$Person", rfl, by decide, uin_4, fun U A h => Or.inl (mw_use h kw229 rfl), fun _ _ _ h => h⟩
theorem fp_RX3_7 : mw_FP RX3 7 4 2 (.int) false := ⟨RX3, TX3, 3, "AccessGate$Person", tyX3, rfl, by decide, uin_4, fun U A h => Or.inl (mw_use h kw229 rfl), fun _ _ _ h => h, tyX3_ok, nmX3, by decide +kernel, rfl, fun h => nomatch h⟩
theorem fl_RX2_7 : mw_FL RX2 7 3 0 := ⟨RX2, TX2, 2, "AccessGate$Machine", rfl, by decide, uin_3, fun U A h => Or.inl (mw_use h kw315 rfl), fun _ _ _ h => h⟩
theorem fp_RX2_7 : mw_FP RX2 7 3 0 (.int) true := ⟨RX2, TX2, 2, "AccessGate$Machine", tyX2, rfl, by decide, uin_3, fun U A h => Or.inl (mw_use h kw315 rfl), fun _ _ _ h => h, tyX2_ok, nmX2, by decide +kernel, rfl, fun _ => rfl⟩
theorem fl_RX6_30 : mw_FL RX6 30 3 0 := ⟨RX2, TX2, 2, "AccessGate$Machine", rfl, by decide, uin_3, fun U A h => Or.inr ⟨_, mw_use h kw316 rfl⟩, fun _ _ _ h => h⟩
theorem fl_RX2_13 : mw_FL RX2 13 3 1 := ⟨RX2, TX2, 2, "AccessGate$Machine", rfl, by decide, uin_3, fun U A h => Or.inl (mw_use h kw317 rfl), fun _ _ _ h => h⟩
theorem fp_RX2_13 : mw_FP RX2 13 3 1 (.int) true := ⟨RX2, TX2, 2, "AccessGate$Machine", tyX2, rfl, by decide, uin_3, fun U A h => Or.inl (mw_use h kw317 rfl), fun _ _ _ h => h, tyX2_ok, nmX2, by decide +kernel, rfl, fun _ => rfl⟩
theorem fl_RX3_19 : mw_FL RX3 19 3 1 := ⟨RX2, TX2, 2, "AccessGate$Machine", rfl, by decide, uin_3, fun U A h => Or.inr ⟨_, mw_use h kw318 rfl⟩, fun _ _ _ h => h⟩
theorem fl_RX7_91 : mw_FL RX7 91 3 1 := ⟨RX2, TX2, 2, "AccessGate$Machine", rfl, by decide, uin_3, fun U A h => Or.inr ⟨_, mw_use h kw319 rfl⟩, fun _ _ _ h => h⟩
theorem fl_RX0_19 : mw_FL RX0 19 1 0 := ⟨RX0, TX0, 6, "AccessGate$Ask", rfl, by decide, uin_1, fun U A h => Or.inl (mw_use h kw462 rfl), fun _ _ _ h => h⟩
theorem fp_RX0_19 : mw_FP RX0 19 1 0 (.object "AccessGate$Person") true := ⟨RX0, TX0, 6, "AccessGate$Ask", tyX0, rfl, by decide, uin_1, fun U A h => Or.inl (mw_use h kw462 rfl), fun _ _ _ h => h, tyX0_ok, nmX0, by decide +kernel, rfl, fun _ => rfl⟩
theorem fl_RX7_147 : mw_FL RX7 147 1 0 := ⟨RX0, TX0, 6, "AccessGate$Ask", rfl, by decide, uin_1, fun U A h => Or.inr ⟨_, mw_use h kw463 rfl⟩, fun _ _ _ h => h⟩
theorem fl_RX0_22 : mw_FL RX0 22 1 1 := ⟨RX0, TX0, 6, "AccessGate$Ask", rfl, by decide, uin_1, fun U A h => Or.inl (mw_use h kw464 rfl), fun _ _ _ h => h⟩
theorem fp_RX0_22 : mw_FP RX0 22 1 1 (.object "AccessGate$Machine") true := ⟨RX0, TX0, 6, "AccessGate$Ask", tyX0, rfl, by decide, uin_1, fun U A h => Or.inl (mw_use h kw464 rfl), fun _ _ _ h => h, tyX0_ok, nmX0, by decide +kernel, rfl, fun _ => rfl⟩
theorem fl_RX7_138 : mw_FL RX7 138 1 1 := ⟨RX0, TX0, 6, "AccessGate$Ask", rfl, by decide, uin_1, fun U A h => Or.inr ⟨_, mw_use h kw465 rfl⟩, fun _ _ _ h => h⟩
theorem fl_RX0_26 : mw_FL RX0 26 1 2 := ⟨RX0, TX0, 6, "AccessGate$Ask", rfl, by decide, uin_1, fun U A h => Or.inl (mw_use h kw466 rfl), fun _ _ _ h => h⟩
theorem fp_RX0_26 : mw_FP RX0 26 1 2 (.int) true := ⟨RX0, TX0, 6, "AccessGate$Ask", tyX0, rfl, by decide, uin_1, fun U A h => Or.inl (mw_use h kw466 rfl), fun _ _ _ h => h, tyX0_ok, nmX0, by decide +kernel, rfl, fun _ => rfl⟩
theorem fl_RX7_150 : mw_FL RX7 150 1 2 := ⟨RX0, TX0, 6, "AccessGate$Ask", rfl, by decide, uin_1, fun U A h => Or.inr ⟨_, mw_use h kw467 rfl⟩, fun _ _ _ h => h⟩
theorem fl_RX0_29 : mw_FL RX0 29 1 3 := ⟨RX0, TX0, 6, "AccessGate$Ask", rfl, by decide, uin_1, fun U A h => Or.inl (mw_use h kw468 rfl), fun _ _ _ h => h⟩
theorem fp_RX0_29 : mw_FP RX0 29 1 3 (.int) true := ⟨RX0, TX0, 6, "AccessGate$Ask", tyX0, rfl, by decide, uin_1, fun U A h => Or.inl (mw_use h kw468 rfl), fun _ _ _ h => h, tyX0_ok, nmX0, by decide +kernel, rfl, fun _ => rfl⟩
theorem fl_RX0_9 : mw_FL RX0 9 1 4 := ⟨RX0, TX0, 6, "AccessGate$Ask", rfl, by decide, uin_1, fun U A h => Or.inl (mw_use h kw469 rfl), fun _ _ _ h => h⟩
theorem fp_RX0_9 : mw_FP RX0 9 1 4 (.object "AccessGate$Person") false := ⟨RX0, TX0, 6, "AccessGate$Ask", tyX0, rfl, by decide, uin_1, fun U A h => Or.inl (mw_use h kw469 rfl), fun _ _ _ h => h, tyX0_ok, nmX0, by decide +kernel, rfl, fun h => nomatch h⟩
theorem fl_RX7_132 : mw_FL RX7 132 1 4 := ⟨RX0, TX0, 6, "AccessGate$Ask", rfl, by decide, uin_1, fun U A h => Or.inr ⟨_, mw_use h kw470 rfl⟩, fun _ _ _ h => h⟩
theorem fp_RX7_132 : mw_FP RX7 132 1 4 (.object "AccessGate$Person") false := ⟨RX0, TX0, 6, "AccessGate$Ask", tyX0, rfl, by decide, uin_1, fun U A h => Or.inr ⟨rfl, _, mw_use h kw470 rfl⟩, fun _ _ _ h => h, tyX0_ok, nmX0, by decide +kernel, rfl, fun h => nomatch h⟩
theorem fl_RX0_15 : mw_FL RX0 15 1 5 := ⟨RX0, TX0, 6, "AccessGate$Ask", rfl, by decide, uin_1, fun U A h => Or.inl (mw_use h kw471 rfl), fun _ _ _ h => h⟩
theorem fp_RX0_15 : mw_FP RX0 15 1 5 (.int) false := ⟨RX0, TX0, 6, "AccessGate$Ask", tyX0, rfl, by decide, uin_1, fun U A h => Or.inl (mw_use h kw471 rfl), fun _ _ _ h => h, tyX0_ok, nmX0, by decide +kernel, rfl, fun h => nomatch h⟩
theorem fl_RX7_142 : mw_FL RX7 142 1 5 := ⟨RX0, TX0, 6, "AccessGate$Ask", rfl, by decide, uin_1, fun U A h => Or.inr ⟨_, mw_use h kw472 rfl⟩, fun _ _ _ h => h⟩
theorem fp_RX7_142 : mw_FP RX7 142 1 5 (.int) false := ⟨RX0, TX0, 6, "AccessGate$Ask", tyX0, rfl, by decide, uin_1, fun U A h => Or.inr ⟨rfl, _, mw_use h kw472 rfl⟩, fun _ _ _ h => h, tyX0_ok, nmX0, by decide +kernel, rfl, fun h => nomatch h⟩
theorem fl_RX4_7 : mw_FL RX4 7 5 0 := ⟨RX4, TX4, 4, "AccessGate$Right", rfl, by decide, uin_5, fun U A h => Or.inl (mw_use h kw514 rfl), fun _ _ _ h => h⟩
theorem fp_RX4_7 : mw_FP RX4 7 5 0 (.object "AccessGate$Person") true := ⟨RX4, TX4, 4, "AccessGate$Right", tyX4, rfl, by decide, uin_5, fun U A h => Or.inl (mw_use h kw514 rfl), fun _ _ _ h => h, tyX4_ok, nmX4, by decide +kernel, rfl, fun _ => rfl⟩
theorem fl_RX7_291 : mw_FL RX7 291 5 0 := ⟨RX4, TX4, 4, "AccessGate$Right", rfl, by decide, uin_5, fun U A h => Or.inr ⟨_, mw_use h kw515 rfl⟩, fun _ _ _ h => h⟩
theorem fl_RX4_13 : mw_FL RX4 13 5 1 := ⟨RX4, TX4, 4, "AccessGate$Right", rfl, by decide, uin_5, fun U A h => Or.inl (mw_use h kw516 rfl), fun _ _ _ h => h⟩
theorem fp_RX4_13 : mw_FP RX4 13 5 1 (.object "AccessGate$Machine") true := ⟨RX4, TX4, 4, "AccessGate$Right", tyX4, rfl, by decide, uin_5, fun U A h => Or.inl (mw_use h kw516 rfl), fun _ _ _ h => h, tyX4_ok, nmX4, by decide +kernel, rfl, fun _ => rfl⟩
theorem fl_RX7_292 : mw_FL RX7 292 5 1 := ⟨RX4, TX4, 4, "AccessGate$Right", rfl, by decide, uin_5, fun U A h => Or.inr ⟨_, mw_use h kw517 rfl⟩, fun _ _ _ h => h⟩
theorem fl_RX4_17 : mw_FL RX4 17 5 2 := ⟨RX4, TX4, 4, "AccessGate$Right", rfl, by decide, uin_5, fun U A h => Or.inl (mw_use h kw518 rfl), fun _ _ _ h => h⟩
theorem fp_RX4_17 : mw_FP RX4 17 5 2 (.int) true := ⟨RX4, TX4, 4, "AccessGate$Right", tyX4, rfl, by decide, uin_5, fun U A h => Or.inl (mw_use h kw518 rfl), fun _ _ _ h => h, tyX4_ok, nmX4, by decide +kernel, rfl, fun _ => rfl⟩
theorem fl_RX4_21 : mw_FL RX4 21 5 3 := ⟨RX4, TX4, 4, "AccessGate$Right", rfl, by decide, uin_5, fun U A h => Or.inl (mw_use h kw519 rfl), fun _ _ _ h => h⟩
theorem fp_RX4_21 : mw_FP RX4 21 5 3 (.int) false := ⟨RX4, TX4, 4, "AccessGate$Right", tyX4, rfl, by decide, uin_5, fun U A h => Or.inl (mw_use h kw519 rfl), fun _ _ _ h => h, tyX4_ok, nmX4, by decide +kernel, rfl, fun h => nomatch h⟩
theorem fl_RX7_296 : mw_FL RX7 296 5 3 := ⟨RX4, TX4, 4, "AccessGate$Right", rfl, by decide, uin_5, fun U A h => Or.inr ⟨_, mw_use h kw520 rfl⟩, fun _ _ _ h => h⟩
theorem fp_RX7_296 : mw_FP RX7 296 5 3 (.int) false := ⟨RX4, TX4, 4, "AccessGate$Right", tyX4, rfl, by decide, uin_5, fun U A h => Or.inr ⟨rfl, _, mw_use h kw520 rfl⟩, fun _ _ _ h => h, tyX4_ok, nmX4, by decide +kernel, rfl, fun h => nomatch h⟩
theorem fl_RX1_15 : mw_FL RX1 15 2 0 := ⟨RX1, TX1, 4, "AccessGate$Entry", rfl, by decide, uin_2, fun U A h => Or.inl (mw_use h kw555 rfl), fun _ _ _ h => h⟩
theorem fp_RX1_15 : mw_FP RX1 15 2 0 (.object "AccessGate$Person") true := ⟨RX1, TX1, 4, "AccessGate$Entry", tyX1, rfl, by decide, uin_2, fun U A h => Or.inl (mw_use h kw555 rfl), fun _ _ _ h => h, tyX1_ok, nmX1, by decide +kernel, rfl, fun _ => rfl⟩
theorem fl_RX7_176 : mw_FL RX7 176 2 0 := ⟨RX1, TX1, 4, "AccessGate$Entry", rfl, by decide, uin_2, fun U A h => Or.inr ⟨_, mw_use h kw556 rfl⟩, fun _ _ _ h => h⟩
theorem fl_RX1_19 : mw_FL RX1 19 2 1 := ⟨RX1, TX1, 4, "AccessGate$Entry", rfl, by decide, uin_2, fun U A h => Or.inl (mw_use h kw557 rfl), fun _ _ _ h => h⟩
theorem fp_RX1_19 : mw_FP RX1 19 2 1 (.object "AccessGate$Machine") true := ⟨RX1, TX1, 4, "AccessGate$Entry", tyX1, rfl, by decide, uin_2, fun U A h => Or.inl (mw_use h kw557 rfl), fun _ _ _ h => h, tyX1_ok, nmX1, by decide +kernel, rfl, fun _ => rfl⟩
theorem fl_RX7_179 : mw_FL RX7 179 2 1 := ⟨RX1, TX1, 4, "AccessGate$Entry", rfl, by decide, uin_2, fun U A h => Or.inr ⟨_, mw_use h kw558 rfl⟩, fun _ _ _ h => h⟩
theorem fl_RX1_23 : mw_FL RX1 23 2 2 := ⟨RX1, TX1, 4, "AccessGate$Entry", rfl, by decide, uin_2, fun U A h => Or.inl (mw_use h kw559 rfl), fun _ _ _ h => h⟩
theorem fp_RX1_23 : mw_FP RX1 23 2 2 (.int) true := ⟨RX1, TX1, 4, "AccessGate$Entry", tyX1, rfl, by decide, uin_2, fun U A h => Or.inl (mw_use h kw559 rfl), fun _ _ _ h => h, tyX1_ok, nmX1, by decide +kernel, rfl, fun _ => rfl⟩
theorem fl_RX7_180 : mw_FL RX7 180 2 2 := ⟨RX1, TX1, 4, "AccessGate$Entry", rfl, by decide, uin_2, fun U A h => Or.inr ⟨_, mw_use h kw560 rfl⟩, fun _ _ _ h => h⟩
theorem fl_RX1_9 : mw_FL RX1 9 2 3 := ⟨RX1, TX1, 4, "AccessGate$Entry", rfl, by decide, uin_2, fun U A h => Or.inl (mw_use h kw561 rfl), fun _ _ _ h => h⟩
theorem fp_RX1_9 : mw_FP RX1 9 2 3 (.boolean) false := ⟨RX1, TX1, 4, "AccessGate$Entry", tyX1, rfl, by decide, uin_2, fun U A h => Or.inl (mw_use h kw561 rfl), fun _ _ _ h => h, tyX1_ok, nmX1, by decide +kernel, rfl, fun h => nomatch h⟩
theorem fl_RX7_167 : mw_FL RX7 167 2 3 := ⟨RX1, TX1, 4, "AccessGate$Entry", rfl, by decide, uin_2, fun U A h => Or.inr ⟨_, mw_use h kw562 rfl⟩, fun _ _ _ h => h⟩
theorem fp_RX7_167 : mw_FP RX7 167 2 3 (.boolean) false := ⟨RX1, TX1, 4, "AccessGate$Entry", tyX1, rfl, by decide, uin_2, fun U A h => Or.inr ⟨rfl, _, mw_use h kw562 rfl⟩, fun _ _ _ h => h, tyX1_ok, nmX1, by decide +kernel, rfl, fun h => nomatch h⟩
theorem fl_RX5_22 : mw_FL RX5 22 6 0 := ⟨RX5, TX5, 6, "AccessGate$Session", rfl, by decide, uin_6, fun U A h => Or.inl (mw_use h kw614 rfl), fun _ _ _ h => h⟩
theorem fp_RX5_22 : mw_FP RX5 22 6 0 (.object "AccessGate$Person") true := ⟨RX5, TX5, 6, "AccessGate$Session", tyX5, rfl, by decide, uin_6, fun U A h => Or.inl (mw_use h kw614 rfl), fun _ _ _ h => h, tyX5_ok, nmX5, by decide +kernel, rfl, fun _ => rfl⟩
theorem fl_RX7_215 : mw_FL RX7 215 6 0 := ⟨RX5, TX5, 6, "AccessGate$Session", rfl, by decide, uin_6, fun U A h => Or.inr ⟨_, mw_use h kw615 rfl⟩, fun _ _ _ h => h⟩
theorem fl_RX5_26 : mw_FL RX5 26 6 1 := ⟨RX5, TX5, 6, "AccessGate$Session", rfl, by decide, uin_6, fun U A h => Or.inl (mw_use h kw616 rfl), fun _ _ _ h => h⟩
theorem fp_RX5_26 : mw_FP RX5 26 6 1 (.object "AccessGate$Machine") true := ⟨RX5, TX5, 6, "AccessGate$Session", tyX5, rfl, by decide, uin_6, fun U A h => Or.inl (mw_use h kw616 rfl), fun _ _ _ h => h, tyX5_ok, nmX5, by decide +kernel, rfl, fun _ => rfl⟩
theorem fl_RX7_216 : mw_FL RX7 216 6 1 := ⟨RX5, TX5, 6, "AccessGate$Session", rfl, by decide, uin_6, fun U A h => Or.inr ⟨_, mw_use h kw617 rfl⟩, fun _ _ _ h => h⟩
theorem fl_RX5_9 : mw_FL RX5 9 6 2 := ⟨RX5, TX5, 6, "AccessGate$Session", rfl, by decide, uin_6, fun U A h => Or.inl (mw_use h kw618 rfl), fun _ _ _ h => h⟩
theorem fp_RX5_9 : mw_FP RX5 9 6 2 (.boolean) false := ⟨RX5, TX5, 6, "AccessGate$Session", tyX5, rfl, by decide, uin_6, fun U A h => Or.inl (mw_use h kw618 rfl), fun _ _ _ h => h, tyX5_ok, nmX5, by decide +kernel, rfl, fun h => nomatch h⟩
theorem fl_RX7_237 : mw_FL RX7 237 6 2 := ⟨RX5, TX5, 6, "AccessGate$Session", rfl, by decide, uin_6, fun U A h => Or.inr ⟨_, mw_use h kw619 rfl⟩, fun _ _ _ h => h⟩
theorem fp_RX7_237 : mw_FP RX7 237 6 2 (.boolean) false := ⟨RX5, TX5, 6, "AccessGate$Session", tyX5, rfl, by decide, uin_6, fun U A h => Or.inr ⟨rfl, _, mw_use h kw619 rfl⟩, fun _ _ _ h => h, tyX5_ok, nmX5, by decide +kernel, rfl, fun h => nomatch h⟩
theorem fl_RX5_30 : mw_FL RX5 30 6 3 := ⟨RX5, TX5, 6, "AccessGate$Session", rfl, by decide, uin_6, fun U A h => Or.inl (mw_use h kw620 rfl), fun _ _ _ h => h⟩
theorem fp_RX5_30 : mw_FP RX5 30 6 3 (.int) false := ⟨RX5, TX5, 6, "AccessGate$Session", tyX5, rfl, by decide, uin_6, fun U A h => Or.inl (mw_use h kw620 rfl), fun _ _ _ h => h, tyX5_ok, nmX5, by decide +kernel, rfl, fun h => nomatch h⟩
theorem fl_RX7_217 : mw_FL RX7 217 6 3 := ⟨RX5, TX5, 6, "AccessGate$Session", rfl, by decide, uin_6, fun U A h => Or.inr ⟨_, mw_use h kw621 rfl⟩, fun _ _ _ h => h⟩
theorem fp_RX7_217 : mw_FP RX7 217 6 3 (.int) false := ⟨RX5, TX5, 6, "AccessGate$Session", tyX5, rfl, by decide, uin_6, fun U A h => Or.inr ⟨rfl, _, mw_use h kw621 rfl⟩, fun _ _ _ h => h, tyX5_ok, nmX5, by decide +kernel, rfl, fun h => nomatch h⟩
theorem fl_RX5_15 : mw_FL RX5 15 6 4 := ⟨RX5, TX5, 6, "AccessGate$Session", rfl, by decide, uin_6, fun U A h => Or.inl (mw_use h kw622 rfl), fun _ _ _ h => h⟩
theorem fp_RX5_15 : mw_FP RX5 15 6 4 (.int) false := ⟨RX5, TX5, 6, "AccessGate$Session", tyX5, rfl, by decide, uin_6, fun U A h => Or.inl (mw_use h kw622 rfl), fun _ _ _ h => h, tyX5_ok, nmX5, by decide +kernel, rfl, fun h => nomatch h⟩
theorem fl_RX7_223 : mw_FL RX7 223 6 4 := ⟨RX5, TX5, 6, "AccessGate$Session", rfl, by decide, uin_6, fun U A h => Or.inr ⟨_, mw_use h kw623 rfl⟩, fun _ _ _ h => h⟩
theorem fp_RX7_223 : mw_FP RX7 223 6 4 (.int) false := ⟨RX5, TX5, 6, "AccessGate$Session", tyX5, rfl, by decide, uin_6, fun U A h => Or.inr ⟨rfl, _, mw_use h kw623 rfl⟩, fun _ _ _ h => h, tyX5_ok, nmX5, by decide +kernel, rfl, fun h => nomatch h⟩
theorem fl_RX5_19 : mw_FL RX5 19 6 5 := ⟨RX5, TX5, 6, "AccessGate$Session", rfl, by decide, uin_6, fun U A h => Or.inl (mw_use h kw624 rfl), fun _ _ _ h => h⟩
theorem fp_RX5_19 : mw_FP RX5 19 6 5 (.int) false := ⟨RX5, TX5, 6, "AccessGate$Session", tyX5, rfl, by decide, uin_6, fun U A h => Or.inl (mw_use h kw624 rfl), fun _ _ _ h => h, tyX5_ok, nmX5, by decide +kernel, rfl, fun h => nomatch h⟩
theorem fl_RX7_220 : mw_FL RX7 220 6 5 := ⟨RX5, TX5, 6, "AccessGate$Session", rfl, by decide, uin_6, fun U A h => Or.inr ⟨_, mw_use h kw625 rfl⟩, fun _ _ _ h => h⟩
theorem fp_RX7_220 : mw_FP RX7 220 6 5 (.int) false := ⟨RX5, TX5, 6, "AccessGate$Session", tyX5, rfl, by decide, uin_6, fun U A h => Or.inr ⟨rfl, _, mw_use h kw625 rfl⟩, fun _ _ _ h => h, tyX5_ok, nmX5, by decide +kernel, rfl, fun h => nomatch h⟩
theorem fl_RX8_7 : mw_FL RX8 7 9 0 := ⟨RX8, TX8, 34, "AccessGateModel", rfl, by decide, uin_9, fun U A h => Or.inl (mw_use h kw717 rfl), fun _ _ _ h => h⟩
theorem fp_RX8_7 : mw_FP RX8 7 9 0 (.array .int) true := ⟨RX8, TX8, 34, "AccessGateModel", tyX8, rfl, by decide, uin_9, fun U A h => Or.inl (mw_use h kw717 rfl), fun _ _ _ h => h, tyX8_ok, nmX8, by decide +kernel, rfl, fun _ => rfl⟩
theorem fl_RX8_13 : mw_FL RX8 13 9 1 := ⟨RX8, TX8, 34, "AccessGateModel", rfl, by decide, uin_9, fun U A h => Or.inl (mw_use h kw718 rfl), fun _ _ _ h => h⟩
theorem fp_RX8_13 : mw_FP RX8 13 9 1 (.array .boolean) true := ⟨RX8, TX8, 34, "AccessGateModel", tyX8, rfl, by decide, uin_9, fun U A h => Or.inl (mw_use h kw718 rfl), fun _ _ _ h => h, tyX8_ok, nmX8, by decide +kernel, rfl, fun _ => rfl⟩
theorem fl_RX8_90 : mw_FL RX8 90 9 2 := ⟨RX8, TX8, 34, "AccessGateModel", rfl, by decide, uin_9, fun U A h => Or.inl (mw_use h kw719 rfl), fun _ _ _ h => h⟩
theorem fp_RX8_90 : mw_FP RX8 90 9 2 (.int) false := ⟨RX8, TX8, 34, "AccessGateModel", tyX8, rfl, by decide, uin_9, fun U A h => Or.inl (mw_use h kw719 rfl), fun _ _ _ h => h, tyX8_ok, nmX8, by decide +kernel, rfl, fun h => nomatch h⟩
theorem fl_RX8_17 : mw_FL RX8 17 9 3 := ⟨RX8, TX8, 34, "AccessGateModel", rfl, by decide, uin_9, fun U A h => Or.inl (mw_use h kw720 rfl), fun _ _ _ h => h⟩
theorem fp_RX8_17 : mw_FP RX8 17 9 3 (.array .int) true := ⟨RX8, TX8, 34, "AccessGateModel", tyX8, rfl, by decide, uin_9, fun U A h => Or.inl (mw_use h kw720 rfl), fun _ _ _ h => h, tyX8_ok, nmX8, by decide +kernel, rfl, fun _ => rfl⟩
theorem fl_RX8_97 : mw_FL RX8 97 9 4 := ⟨RX8, TX8, 34, "AccessGateModel", rfl, by decide, uin_9, fun U A h => Or.inl (mw_use h kw721 rfl), fun _ _ _ h => h⟩
theorem fp_RX8_97 : mw_FP RX8 97 9 4 (.int) false := ⟨RX8, TX8, 34, "AccessGateModel", tyX8, rfl, by decide, uin_9, fun U A h => Or.inl (mw_use h kw721 rfl), fun _ _ _ h => h, tyX8_ok, nmX8, by decide +kernel, rfl, fun h => nomatch h⟩
theorem fl_RX8_119 : mw_FL RX8 119 9 5 := ⟨RX8, TX8, 34, "AccessGateModel", rfl, by decide, uin_9, fun U A h => Or.inl (mw_use h kw722 rfl), fun _ _ _ h => h⟩
theorem fp_RX8_119 : mw_FP RX8 119 9 5 (.int) false := ⟨RX8, TX8, 34, "AccessGateModel", tyX8, rfl, by decide, uin_9, fun U A h => Or.inl (mw_use h kw722 rfl), fun _ _ _ h => h, tyX8_ok, nmX8, by decide +kernel, rfl, fun h => nomatch h⟩
theorem fl_RX8_20 : mw_FL RX8 20 9 6 := ⟨RX8, TX8, 34, "AccessGateModel", rfl, by decide, uin_9, fun U A h => Or.inl (mw_use h kw723 rfl), fun _ _ _ h => h⟩
theorem fp_RX8_20 : mw_FP RX8 20 9 6 (.array .int) true := ⟨RX8, TX8, 34, "AccessGateModel", tyX8, rfl, by decide, uin_9, fun U A h => Or.inl (mw_use h kw723 rfl), fun _ _ _ h => h, tyX8_ok, nmX8, by decide +kernel, rfl, fun _ => rfl⟩
theorem fl_RX8_23 : mw_FL RX8 23 9 7 := ⟨RX8, TX8, 34, "AccessGateModel", rfl, by decide, uin_9, fun U A h => Or.inl (mw_use h kw724 rfl), fun _ _ _ h => h⟩
theorem fp_RX8_23 : mw_FP RX8 23 9 7 (.array .int) true := ⟨RX8, TX8, 34, "AccessGateModel", tyX8, rfl, by decide, uin_9, fun U A h => Or.inl (mw_use h kw724 rfl), fun _ _ _ h => h, tyX8_ok, nmX8, by decide +kernel, rfl, fun _ => rfl⟩
theorem fl_RX8_26 : mw_FL RX8 26 9 8 := ⟨RX8, TX8, 34, "AccessGateModel", rfl, by decide, uin_9, fun U A h => Or.inl (mw_use h kw725 rfl), fun _ _ _ h => h⟩
theorem fp_RX8_26 : mw_FP RX8 26 9 8 (.array .int) true := ⟨RX8, TX8, 34, "AccessGateModel", tyX8, rfl, by decide, uin_9, fun U A h => Or.inl (mw_use h kw725 rfl), fun _ _ _ h => h, tyX8_ok, nmX8, by decide +kernel, rfl, fun _ => rfl⟩
theorem fl_RX8_29 : mw_FL RX8 29 9 9 := ⟨RX8, TX8, 34, "AccessGateModel", rfl, by decide, uin_9, fun U A h => Or.inl (mw_use h kw726 rfl), fun _ _ _ h => h⟩
theorem fp_RX8_29 : mw_FP RX8 29 9 9 (.array .int) true := ⟨RX8, TX8, 34, "AccessGateModel", tyX8, rfl, by decide, uin_9, fun U A h => Or.inl (mw_use h kw726 rfl), fun _ _ _ h => h, tyX8_ok, nmX8, by decide +kernel, rfl, fun _ => rfl⟩
theorem fl_RX8_127 : mw_FL RX8 127 9 10 := ⟨RX8, TX8, 34, "AccessGateModel", rfl, by decide, uin_9, fun U A h => Or.inl (mw_use h kw727 rfl), fun _ _ _ h => h⟩
theorem fp_RX8_127 : mw_FP RX8 127 9 10 (.int) false := ⟨RX8, TX8, 34, "AccessGateModel", tyX8, rfl, by decide, uin_9, fun U A h => Or.inl (mw_use h kw727 rfl), fun _ _ _ h => h, tyX8_ok, nmX8, by decide +kernel, rfl, fun h => nomatch h⟩
theorem fl_RX8_32 : mw_FL RX8 32 9 11 := ⟨RX8, TX8, 34, "AccessGateModel", rfl, by decide, uin_9, fun U A h => Or.inl (mw_use h kw728 rfl), fun _ _ _ h => h⟩
theorem fp_RX8_32 : mw_FP RX8 32 9 11 (.array .int) true := ⟨RX8, TX8, 34, "AccessGateModel", tyX8, rfl, by decide, uin_9, fun U A h => Or.inl (mw_use h kw728 rfl), fun _ _ _ h => h, tyX8_ok, nmX8, by decide +kernel, rfl, fun _ => rfl⟩
theorem fl_RX8_35 : mw_FL RX8 35 9 12 := ⟨RX8, TX8, 34, "AccessGateModel", rfl, by decide, uin_9, fun U A h => Or.inl (mw_use h kw729 rfl), fun _ _ _ h => h⟩
theorem fp_RX8_35 : mw_FP RX8 35 9 12 (.array .int) true := ⟨RX8, TX8, 34, "AccessGateModel", tyX8, rfl, by decide, uin_9, fun U A h => Or.inl (mw_use h kw729 rfl), fun _ _ _ h => h, tyX8_ok, nmX8, by decide +kernel, rfl, fun _ => rfl⟩
theorem fl_RX8_38 : mw_FL RX8 38 9 13 := ⟨RX8, TX8, 34, "AccessGateModel", rfl, by decide, uin_9, fun U A h => Or.inl (mw_use h kw730 rfl), fun _ _ _ h => h⟩
theorem fp_RX8_38 : mw_FP RX8 38 9 13 (.array .int) true := ⟨RX8, TX8, 34, "AccessGateModel", tyX8, rfl, by decide, uin_9, fun U A h => Or.inl (mw_use h kw730 rfl), fun _ _ _ h => h, tyX8_ok, nmX8, by decide +kernel, rfl, fun _ => rfl⟩
theorem fl_RX8_41 : mw_FL RX8 41 9 14 := ⟨RX8, TX8, 34, "AccessGateModel", rfl, by decide, uin_9, fun U A h => Or.inl (mw_use h kw731 rfl), fun _ _ _ h => h⟩
theorem fp_RX8_41 : mw_FP RX8 41 9 14 (.array .int) true := ⟨RX8, TX8, 34, "AccessGateModel", tyX8, rfl, by decide, uin_9, fun U A h => Or.inl (mw_use h kw731 rfl), fun _ _ _ h => h, tyX8_ok, nmX8, by decide +kernel, rfl, fun _ => rfl⟩
theorem fl_RX8_44 : mw_FL RX8 44 9 15 := ⟨RX8, TX8, 34, "AccessGateModel", rfl, by decide, uin_9, fun U A h => Or.inl (mw_use h kw732 rfl), fun _ _ _ h => h⟩
theorem fp_RX8_44 : mw_FP RX8 44 9 15 (.array .int) true := ⟨RX8, TX8, 34, "AccessGateModel", tyX8, rfl, by decide, uin_9, fun U A h => Or.inl (mw_use h kw732 rfl), fun _ _ _ h => h, tyX8_ok, nmX8, by decide +kernel, rfl, fun _ => rfl⟩
theorem fl_RX8_47 : mw_FL RX8 47 9 16 := ⟨RX8, TX8, 34, "AccessGateModel", rfl, by decide, uin_9, fun U A h => Or.inl (mw_use h kw733 rfl), fun _ _ _ h => h⟩
theorem fp_RX8_47 : mw_FP RX8 47 9 16 (.array .int) true := ⟨RX8, TX8, 34, "AccessGateModel", tyX8, rfl, by decide, uin_9, fun U A h => Or.inl (mw_use h kw733 rfl), fun _ _ _ h => h, tyX8_ok, nmX8, by decide +kernel, rfl, fun _ => rfl⟩
theorem fl_RX8_107 : mw_FL RX8 107 9 17 := ⟨RX8, TX8, 34, "AccessGateModel", rfl, by decide, uin_9, fun U A h => Or.inl (mw_use h kw734 rfl), fun _ _ _ h => h⟩
theorem fp_RX8_107 : mw_FP RX8 107 9 17 (.int) false := ⟨RX8, TX8, 34, "AccessGateModel", tyX8, rfl, by decide, uin_9, fun U A h => Or.inl (mw_use h kw734 rfl), fun _ _ _ h => h, tyX8_ok, nmX8, by decide +kernel, rfl, fun h => nomatch h⟩
theorem fl_RX8_50 : mw_FL RX8 50 9 18 := ⟨RX8, TX8, 34, "AccessGateModel", rfl, by decide, uin_9, fun U A h => Or.inl (mw_use h kw735 rfl), fun _ _ _ h => h⟩
theorem fp_RX8_50 : mw_FP RX8 50 9 18 (.array .int) true := ⟨RX8, TX8, 34, "AccessGateModel", tyX8, rfl, by decide, uin_9, fun U A h => Or.inl (mw_use h kw735 rfl), fun _ _ _ h => h, tyX8_ok, nmX8, by decide +kernel, rfl, fun _ => rfl⟩
theorem fl_RX8_53 : mw_FL RX8 53 9 19 := ⟨RX8, TX8, 34, "AccessGateModel", rfl, by decide, uin_9, fun U A h => Or.inl (mw_use h kw736 rfl), fun _ _ _ h => h⟩
theorem fp_RX8_53 : mw_FP RX8 53 9 19 (.array .int) true := ⟨RX8, TX8, 34, "AccessGateModel", tyX8, rfl, by decide, uin_9, fun U A h => Or.inl (mw_use h kw736 rfl), fun _ _ _ h => h, tyX8_ok, nmX8, by decide +kernel, rfl, fun _ => rfl⟩
theorem fl_RX8_56 : mw_FL RX8 56 9 20 := ⟨RX8, TX8, 34, "AccessGateModel", rfl, by decide, uin_9, fun U A h => Or.inl (mw_use h kw737 rfl), fun _ _ _ h => h⟩
theorem fp_RX8_56 : mw_FP RX8 56 9 20 (.array .int) true := ⟨RX8, TX8, 34, "AccessGateModel", tyX8, rfl, by decide, uin_9, fun U A h => Or.inl (mw_use h kw737 rfl), fun _ _ _ h => h, tyX8_ok, nmX8, by decide +kernel, rfl, fun _ => rfl⟩
theorem fl_RX8_59 : mw_FL RX8 59 9 21 := ⟨RX8, TX8, 34, "AccessGateModel", rfl, by decide, uin_9, fun U A h => Or.inl (mw_use h kw738 rfl), fun _ _ _ h => h⟩
theorem fp_RX8_59 : mw_FP RX8 59 9 21 (.array .boolean) true := ⟨RX8, TX8, 34, "AccessGateModel", tyX8, rfl, by decide, uin_9, fun U A h => Or.inl (mw_use h kw738 rfl), fun _ _ _ h => h, tyX8_ok, nmX8, by decide +kernel, rfl, fun _ => rfl⟩
theorem fl_RX8_110 : mw_FL RX8 110 9 22 := ⟨RX8, TX8, 34, "AccessGateModel", rfl, by decide, uin_9, fun U A h => Or.inl (mw_use h kw739 rfl), fun _ _ _ h => h⟩
theorem fp_RX8_110 : mw_FP RX8 110 9 22 (.int) false := ⟨RX8, TX8, 34, "AccessGateModel", tyX8, rfl, by decide, uin_9, fun U A h => Or.inl (mw_use h kw739 rfl), fun _ _ _ h => h, tyX8_ok, nmX8, by decide +kernel, rfl, fun h => nomatch h⟩
theorem fl_RX8_62 : mw_FL RX8 62 9 23 := ⟨RX8, TX8, 34, "AccessGateModel", rfl, by decide, uin_9, fun U A h => Or.inl (mw_use h kw740 rfl), fun _ _ _ h => h⟩
theorem fp_RX8_62 : mw_FP RX8 62 9 23 (.array .int) true := ⟨RX8, TX8, 34, "AccessGateModel", tyX8, rfl, by decide, uin_9, fun U A h => Or.inl (mw_use h kw740 rfl), fun _ _ _ h => h, tyX8_ok, nmX8, by decide +kernel, rfl, fun _ => rfl⟩
theorem fl_RX8_65 : mw_FL RX8 65 9 24 := ⟨RX8, TX8, 34, "AccessGateModel", rfl, by decide, uin_9, fun U A h => Or.inl (mw_use h kw741 rfl), fun _ _ _ h => h⟩
theorem fp_RX8_65 : mw_FP RX8 65 9 24 (.array .int) true := ⟨RX8, TX8, 34, "AccessGateModel", tyX8, rfl, by decide, uin_9, fun U A h => Or.inl (mw_use h kw741 rfl), fun _ _ _ h => h, tyX8_ok, nmX8, by decide +kernel, rfl, fun _ => rfl⟩
theorem fl_RX8_68 : mw_FL RX8 68 9 25 := ⟨RX8, TX8, 34, "AccessGateModel", rfl, by decide, uin_9, fun U A h => Or.inl (mw_use h kw742 rfl), fun _ _ _ h => h⟩
theorem fp_RX8_68 : mw_FP RX8 68 9 25 (.array .boolean) true := ⟨RX8, TX8, 34, "AccessGateModel", tyX8, rfl, by decide, uin_9, fun U A h => Or.inl (mw_use h kw742 rfl), fun _ _ _ h => h, tyX8_ok, nmX8, by decide +kernel, rfl, fun _ => rfl⟩
theorem fl_RX8_71 : mw_FL RX8 71 9 26 := ⟨RX8, TX8, 34, "AccessGateModel", rfl, by decide, uin_9, fun U A h => Or.inl (mw_use h kw743 rfl), fun _ _ _ h => h⟩
theorem fp_RX8_71 : mw_FP RX8 71 9 26 (.array .int) true := ⟨RX8, TX8, 34, "AccessGateModel", tyX8, rfl, by decide, uin_9, fun U A h => Or.inl (mw_use h kw743 rfl), fun _ _ _ h => h, tyX8_ok, nmX8, by decide +kernel, rfl, fun _ => rfl⟩
theorem fl_RX8_74 : mw_FL RX8 74 9 27 := ⟨RX8, TX8, 34, "AccessGateModel", rfl, by decide, uin_9, fun U A h => Or.inl (mw_use h kw744 rfl), fun _ _ _ h => h⟩
theorem fp_RX8_74 : mw_FP RX8 74 9 27 (.array .int) true := ⟨RX8, TX8, 34, "AccessGateModel", tyX8, rfl, by decide, uin_9, fun U A h => Or.inl (mw_use h kw744 rfl), fun _ _ _ h => h, tyX8_ok, nmX8, by decide +kernel, rfl, fun _ => rfl⟩
theorem fl_RX8_77 : mw_FL RX8 77 9 28 := ⟨RX8, TX8, 34, "AccessGateModel", rfl, by decide, uin_9, fun U A h => Or.inl (mw_use h kw745 rfl), fun _ _ _ h => h⟩
theorem fp_RX8_77 : mw_FP RX8 77 9 28 (.array .int) true := ⟨RX8, TX8, 34, "AccessGateModel", tyX8, rfl, by decide, uin_9, fun U A h => Or.inl (mw_use h kw745 rfl), fun _ _ _ h => h, tyX8_ok, nmX8, by decide +kernel, rfl, fun _ => rfl⟩
theorem fl_RX8_113 : mw_FL RX8 113 9 29 := ⟨RX8, TX8, 34, "AccessGateModel", rfl, by decide, uin_9, fun U A h => Or.inl (mw_use h kw746 rfl), fun _ _ _ h => h⟩
theorem fp_RX8_113 : mw_FP RX8 113 9 29 (.int) false := ⟨RX8, TX8, 34, "AccessGateModel", tyX8, rfl, by decide, uin_9, fun U A h => Or.inl (mw_use h kw746 rfl), fun _ _ _ h => h, tyX8_ok, nmX8, by decide +kernel, rfl, fun h => nomatch h⟩
theorem fl_RX8_80 : mw_FL RX8 80 9 30 := ⟨RX8, TX8, 34, "AccessGateModel", rfl, by decide, uin_9, fun U A h => Or.inl (mw_use h kw747 rfl), fun _ _ _ h => h⟩
theorem fp_RX8_80 : mw_FP RX8 80 9 30 (.array .int) true := ⟨RX8, TX8, 34, "AccessGateModel", tyX8, rfl, by decide, uin_9, fun U A h => Or.inl (mw_use h kw747 rfl), fun _ _ _ h => h, tyX8_ok, nmX8, by decide +kernel, rfl, fun _ => rfl⟩
theorem fl_RX8_83 : mw_FL RX8 83 9 31 := ⟨RX8, TX8, 34, "AccessGateModel", rfl, by decide, uin_9, fun U A h => Or.inl (mw_use h kw748 rfl), fun _ _ _ h => h⟩
theorem fp_RX8_83 : mw_FP RX8 83 9 31 (.array .int) true := ⟨RX8, TX8, 34, "AccessGateModel", tyX8, rfl, by decide, uin_9, fun U A h => Or.inl (mw_use h kw748 rfl), fun _ _ _ h => h, tyX8_ok, nmX8, by decide +kernel, rfl, fun _ => rfl⟩
theorem fl_RX8_116 : mw_FL RX8 116 9 32 := ⟨RX8, TX8, 34, "AccessGateModel", rfl, by decide, uin_9, fun U A h => Or.inl (mw_use h kw749 rfl), fun _ _ _ h => h⟩
theorem fp_RX8_116 : mw_FP RX8 116 9 32 (.int) false := ⟨RX8, TX8, 34, "AccessGateModel", tyX8, rfl, by decide, uin_9, fun U A h => Or.inl (mw_use h kw749 rfl), fun _ _ _ h => h, tyX8_ok, nmX8, by decide +kernel, rfl, fun h => nomatch h⟩
theorem fl_RX8_86 : mw_FL RX8 86 9 33 := ⟨RX8, TX8, 34, "AccessGateModel", rfl, by decide, uin_9, fun U A h => Or.inl (mw_use h kw750 rfl), fun _ _ _ h => h⟩
theorem fp_RX8_86 : mw_FP RX8 86 9 33 (.int) false := ⟨RX8, TX8, 34, "AccessGateModel", tyX8, rfl, by decide, uin_9, fun U A h => Or.inl (mw_use h kw750 rfl), fun _ _ _ h => h, tyX8_ok, nmX8, by decide +kernel, rfl, fun h => nomatch h⟩
theorem tx_45_49 : mw_TX RX7 45 49 "java/lang/IllegalArgumentException" ["java/lang/RuntimeException", "java/lang/Exception"] := ⟨by decide, by decide, kw131, kw10, by decide +kernel⟩
theorem tx_56_60 : mw_TX RX7 56 60 "java/lang/IllegalStateException" ["java/lang/RuntimeException", "java/lang/Exception"] := ⟨by decide, by decide, kw203, kw11, by decide +kernel⟩
theorem tx_255_259 : mw_TX RX7 255 259 "java/lang/IndexOutOfBoundsException" ["java/lang/RuntimeException", "java/lang/Exception"] := ⟨by decide, by decide, kw337, kw18, by decide +kernel⟩
