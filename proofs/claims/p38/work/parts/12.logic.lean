def zT_0 : List (List (Nat × z_O)) := [zt0, zt1, zt2, zt3, zt4, zt5, zt6, zt7, zt8, zt9, zt10, zt11, zt12, zt13, zt14, zt15, zt16, zt17, zt18, zt19]
def zT_1 : List (List (Nat × z_O)) := [zt20, zt21, zt22, zt23, zt24, zt25, zt26, zt27, zt28, zt29, zt30, zt31, zt32, zt33, zt34, zt35, zt36, zt37, zt38, zt39]
def zT_2 : List (List (Nat × z_O)) := [zt40, zt41, zt42, zt43, zt44, zt45, zt46, zt47, zt48, zt49, zt50, zt51, zt52, zt53, zt54, zt55, zt56, zt57, zt58, zt59]
def zT_3 : List (List (Nat × z_O)) := [zt60, zt61, zt62, zt63, zt64, zt65, zt66, zt67, zt68, zt69, zt70, zt71, zt72, zt73, zt74, zt75, zt76, zt77, zt78, zt79]
def zT_4 : List (List (Nat × z_O)) := [zt80, zt81, zt82, zt83, zt84, zt85, zt86, zt87, zt88, zt89, zt90, zt91, zt92, zt93, zt94, zt95, zt96, zt97, zt98, zt99]
def zT_5 : List (List (Nat × z_O)) := [zt100, zt101, zt102, zt103, zt104, zt105, zt106, zt107, zt108, zt109, zt110, zt111, zt112, zt113, zt114, zt115, zt116, zt117, zt118, zt119]
def zT_6 : List (List (Nat × z_O)) := [zt120, zt121, zt122, zt123, zt124, zt125, zt126, zt127, zt128, zt129, zt130, zt131, zt132, zt133, zt134, zt135, zt136, zt137, zt138, zt139]
def zT_7 : List (List (Nat × z_O)) := [zt140, zt141, zt142, zt143, zt144, zt145, zt146, zt147, zt148, zt149, zt150, zt151, zt152, zt153, zt154, zt155, zt156, zt157, zt158, zt159]
def zT_8 : List (List (Nat × z_O)) := [zt160, zt161, zt162, zt163, zt164, zt165, zt166, zt167, zt168, zt169, zt170, zt171, zt172, zt173, zt174, zt175, zt176, zt177, zt178, zt179]
def zT_9 : List (List (Nat × z_O)) := [zt180, zt181, zt182, zt183, zt184, zt185, zt186, zt187, zt188, zt189, zt190, zt191, zt192, zt193, zt194, zt195, zt196, zt197, zt198, zt199]
def zT_10 : List (List (Nat × z_O)) := [zt200, zt201, zt202, zt203, zt204, zt205, zt206, zt207, zt208, zt209, zt210, zt211, zt212, zt213, zt214, zt215, zt216, zt217, zt218, zt219]
def zT_11 : List (List (Nat × z_O)) := [zt220, zt221, zt222, zt223, zt224, zt225, zt226, zt227, zt228, zt229, zt230, zt231, zt232, zt233, zt234, zt235, zt236, zt237, zt238, zt239]
def zT_12 : List (List (Nat × z_O)) := [zt240, zt241, zt242, zt243, zt244, zt245, zt246, zt247, zt248, zt249, zt250, zt251, zt252, zt253, zt254, zt255, zt256, zt257, zt258, zt259]
def zT_13 : List (List (Nat × z_O)) := [zt260, zt261, zt262, zt263, zt264, zt265, zt266, zt267, zt268, zt269, zt270, zt271, zt272, zt273, zt274, zt275, zt276, zt277, zt278, zt279]
def zT_14 : List (List (Nat × z_O)) := [zt280, zt281, zt282, zt283, zt284, zt285, zt286, zt287, zt288, zt289, zt290, zt291, zt292, zt293, zt294, zt295, zt296, zt297, zt298, zt299]
def zT_15 : List (List (Nat × z_O)) := [zt300]
def zTT : List (List (List (Nat × z_O))) := [zT_0, zT_1, zT_2, zT_3, zT_4, zT_5, zT_6, zT_7, zT_8, zT_9, zT_10, zT_11, zT_12, zT_13, zT_14, zT_15]
def z_tab (m : Nat) : List (Nat × z_O) := ((zTT.getD (m / 20) []).getD (m % 20) [])
def z_fd : List (Nat × z_O) → Nat → z_O
  | [], _ => z_bad
  | (a, o) :: l, pc => bif Nat.beq a pc then o else z_fd l pc
def z_T (m pc : Nat) : z_O := z_fd (z_tab m) pc
def z_G : z_X := z_lf z_T
theorem zTs_0 : ∀ (j : Nat) (l : List (Nat × z_O)), zT_0[j]? = some l → ∀ q ∈ l, z_q (0 + j) q := by
  intro j l h
  match j, h with
  | 0, h => cases h; exact zs0
  | 1, h => cases h; exact zs1
  | 2, h => cases h; exact zs2
  | 3, h => cases h; exact zs3
  | 4, h => cases h; exact zs4
  | 5, h => cases h; exact zs5
  | 6, h => cases h; exact zs6
  | 7, h => cases h; exact zs7
  | 8, h => cases h; exact zs8
  | 9, h => cases h; exact zs9
  | 10, h => cases h; exact zs10
  | 11, h => cases h; exact zs11
  | 12, h => cases h; exact zs12
  | 13, h => cases h; exact zs13
  | 14, h => cases h; exact zs14
  | 15, h => cases h; exact zs15
  | 16, h => cases h; exact zs16
  | 17, h => cases h; exact zs17
  | 18, h => cases h; exact zs18
  | 19, h => cases h; exact zs19
  | n + 20, h => simp [zT_0] at h
theorem zTs_1 : ∀ (j : Nat) (l : List (Nat × z_O)), zT_1[j]? = some l → ∀ q ∈ l, z_q (20 + j) q := by
  intro j l h
  match j, h with
  | 0, h => cases h; exact zs20
  | 1, h => cases h; exact zs21
  | 2, h => cases h; exact zs22
  | 3, h => cases h; exact zs23
  | 4, h => cases h; exact zs24
  | 5, h => cases h; exact zs25
  | 6, h => cases h; exact zs26
  | 7, h => cases h; exact zs27
  | 8, h => cases h; exact zs28
  | 9, h => cases h; exact zs29
  | 10, h => cases h; exact zs30
  | 11, h => cases h; exact zs31
  | 12, h => cases h; exact zs32
  | 13, h => cases h; exact zs33
  | 14, h => cases h; exact zs34
  | 15, h => cases h; exact zs35
  | 16, h => cases h; exact zs36
  | 17, h => cases h; exact zs37
  | 18, h => cases h; exact zs38
  | 19, h => cases h; exact zs39
  | n + 20, h => simp [zT_1] at h
theorem zTs_2 : ∀ (j : Nat) (l : List (Nat × z_O)), zT_2[j]? = some l → ∀ q ∈ l, z_q (40 + j) q := by
  intro j l h
  match j, h with
  | 0, h => cases h; exact zs40
  | 1, h => cases h; exact zs41
  | 2, h => cases h; exact zs42
  | 3, h => cases h; exact zs43
  | 4, h => cases h; exact zs44
  | 5, h => cases h; exact zs45
  | 6, h => cases h; exact zs46
  | 7, h => cases h; exact zs47
  | 8, h => cases h; exact zs48
  | 9, h => cases h; exact zs49
  | 10, h => cases h; exact zs50
  | 11, h => cases h; exact zs51
  | 12, h => cases h; exact zs52
  | 13, h => cases h; exact zs53
  | 14, h => cases h; exact zs54
  | 15, h => cases h; exact zs55
  | 16, h => cases h; exact zs56
  | 17, h => cases h; exact zs57
  | 18, h => cases h; exact zs58
  | 19, h => cases h; exact zs59
  | n + 20, h => simp [zT_2] at h
theorem zTs_3 : ∀ (j : Nat) (l : List (Nat × z_O)), zT_3[j]? = some l → ∀ q ∈ l, z_q (60 + j) q := by
  intro j l h
  match j, h with
  | 0, h => cases h; exact zs60
  | 1, h => cases h; exact zs61
  | 2, h => cases h; exact zs62
  | 3, h => cases h; exact zs63
  | 4, h => cases h; exact zs64
  | 5, h => cases h; exact zs65
  | 6, h => cases h; exact zs66
  | 7, h => cases h; exact zs67
  | 8, h => cases h; exact zs68
  | 9, h => cases h; exact zs69
  | 10, h => cases h; exact zs70
  | 11, h => cases h; exact zs71
  | 12, h => cases h; exact zs72
  | 13, h => cases h; exact zs73
  | 14, h => cases h; exact zs74
  | 15, h => cases h; exact zs75
  | 16, h => cases h; exact zs76
  | 17, h => cases h; exact zs77
  | 18, h => cases h; exact zs78
  | 19, h => cases h; exact zs79
  | n + 20, h => simp [zT_3] at h
theorem zTs_4 : ∀ (j : Nat) (l : List (Nat × z_O)), zT_4[j]? = some l → ∀ q ∈ l, z_q (80 + j) q := by
  intro j l h
  match j, h with
  | 0, h => cases h; exact zs80
  | 1, h => cases h; exact zs81
  | 2, h => cases h; exact zs82
  | 3, h => cases h; exact zs83
  | 4, h => cases h; exact zs84
  | 5, h => cases h; exact zs85
  | 6, h => cases h; exact zs86
  | 7, h => cases h; exact zs87
  | 8, h => cases h; exact zs88
  | 9, h => cases h; exact zs89
  | 10, h => cases h; exact zs90
  | 11, h => cases h; exact zs91
  | 12, h => cases h; exact zs92
  | 13, h => cases h; exact zs93
  | 14, h => cases h; exact zs94
  | 15, h => cases h; exact zs95
  | 16, h => cases h; exact zs96
  | 17, h => cases h; exact zs97
  | 18, h => cases h; exact zs98
  | 19, h => cases h; exact zs99
  | n + 20, h => simp [zT_4] at h
theorem zTs_5 : ∀ (j : Nat) (l : List (Nat × z_O)), zT_5[j]? = some l → ∀ q ∈ l, z_q (100 + j) q := by
  intro j l h
  match j, h with
  | 0, h => cases h; exact zs100
  | 1, h => cases h; exact zs101
  | 2, h => cases h; exact zs102
  | 3, h => cases h; exact zs103
  | 4, h => cases h; exact zs104
  | 5, h => cases h; exact zs105
  | 6, h => cases h; exact zs106
  | 7, h => cases h; exact zs107
  | 8, h => cases h; exact zs108
  | 9, h => cases h; exact zs109
  | 10, h => cases h; exact zs110
  | 11, h => cases h; exact zs111
  | 12, h => cases h; exact zs112
  | 13, h => cases h; exact zs113
  | 14, h => cases h; exact zs114
  | 15, h => cases h; exact zs115
  | 16, h => cases h; exact zs116
  | 17, h => cases h; exact zs117
  | 18, h => cases h; exact zs118
  | 19, h => cases h; exact zs119
  | n + 20, h => simp [zT_5] at h
theorem zTs_6 : ∀ (j : Nat) (l : List (Nat × z_O)), zT_6[j]? = some l → ∀ q ∈ l, z_q (120 + j) q := by
  intro j l h
  match j, h with
  | 0, h => cases h; exact zs120
  | 1, h => cases h; exact zs121
  | 2, h => cases h; exact zs122
  | 3, h => cases h; exact zs123
  | 4, h => cases h; exact zs124
  | 5, h => cases h; exact zs125
  | 6, h => cases h; exact zs126
  | 7, h => cases h; exact zs127
  | 8, h => cases h; exact zs128
  | 9, h => cases h; exact zs129
  | 10, h => cases h; exact zs130
  | 11, h => cases h; exact zs131
  | 12, h => cases h; exact zs132
  | 13, h => cases h; exact zs133
  | 14, h => cases h; exact zs134
  | 15, h => cases h; exact zs135
  | 16, h => cases h; exact zs136
  | 17, h => cases h; exact zs137
  | 18, h => cases h; exact zs138
  | 19, h => cases h; exact zs139
  | n + 20, h => simp [zT_6] at h
theorem zTs_7 : ∀ (j : Nat) (l : List (Nat × z_O)), zT_7[j]? = some l → ∀ q ∈ l, z_q (140 + j) q := by
  intro j l h
  match j, h with
  | 0, h => cases h; exact zs140
  | 1, h => cases h; exact zs141
  | 2, h => cases h; exact zs142
  | 3, h => cases h; exact zs143
  | 4, h => cases h; exact zs144
  | 5, h => cases h; exact zs145
  | 6, h => cases h; exact zs146
  | 7, h => cases h; exact zs147
  | 8, h => cases h; exact zs148
  | 9, h => cases h; exact zs149
  | 10, h => cases h; exact zs150
  | 11, h => cases h; exact zs151
  | 12, h => cases h; exact zs152
  | 13, h => cases h; exact zs153
  | 14, h => cases h; exact zs154
  | 15, h => cases h; exact zs155
  | 16, h => cases h; exact zs156
  | 17, h => cases h; exact zs157
  | 18, h => cases h; exact zs158
  | 19, h => cases h; exact zs159
  | n + 20, h => simp [zT_7] at h
theorem zTs_8 : ∀ (j : Nat) (l : List (Nat × z_O)), zT_8[j]? = some l → ∀ q ∈ l, z_q (160 + j) q := by
  intro j l h
  match j, h with
  | 0, h => cases h; exact zs160
  | 1, h => cases h; exact zs161
  | 2, h => cases h; exact zs162
  | 3, h => cases h; exact zs163
  | 4, h => cases h; exact zs164
  | 5, h => cases h; exact zs165
  | 6, h => cases h; exact zs166
  | 7, h => cases h; exact zs167
  | 8, h => cases h; exact zs168
  | 9, h => cases h; exact zs169
  | 10, h => cases h; exact zs170
  | 11, h => cases h; exact zs171
  | 12, h => cases h; exact zs172
  | 13, h => cases h; exact zs173
  | 14, h => cases h; exact zs174
  | 15, h => cases h; exact zs175
  | 16, h => cases h; exact zs176
  | 17, h => cases h; exact zs177
  | 18, h => cases h; exact zs178
  | 19, h => cases h; exact zs179
  | n + 20, h => simp [zT_8] at h
theorem zTs_9 : ∀ (j : Nat) (l : List (Nat × z_O)), zT_9[j]? = some l → ∀ q ∈ l, z_q (180 + j) q := by
  intro j l h
  match j, h with
  | 0, h => cases h; exact zs180
  | 1, h => cases h; exact zs181
  | 2, h => cases h; exact zs182
  | 3, h => cases h; exact zs183
  | 4, h => cases h; exact zs184
  | 5, h => cases h; exact zs185
  | 6, h => cases h; exact zs186
  | 7, h => cases h; exact zs187
  | 8, h => cases h; exact zs188
  | 9, h => cases h; exact zs189
  | 10, h => cases h; exact zs190
  | 11, h => cases h; exact zs191
  | 12, h => cases h; exact zs192
  | 13, h => cases h; exact zs193
  | 14, h => cases h; exact zs194
  | 15, h => cases h; exact zs195
  | 16, h => cases h; exact zs196
  | 17, h => cases h; exact zs197
  | 18, h => cases h; exact zs198
  | 19, h => cases h; exact zs199
  | n + 20, h => simp [zT_9] at h
theorem zTs_10 : ∀ (j : Nat) (l : List (Nat × z_O)), zT_10[j]? = some l → ∀ q ∈ l, z_q (200 + j) q := by
  intro j l h
  match j, h with
  | 0, h => cases h; exact zs200
  | 1, h => cases h; exact zs201
  | 2, h => cases h; exact zs202
  | 3, h => cases h; exact zs203
  | 4, h => cases h; exact zs204
  | 5, h => cases h; exact zs205
  | 6, h => cases h; exact zs206
  | 7, h => cases h; exact zs207
  | 8, h => cases h; exact zs208
  | 9, h => cases h; exact zs209
  | 10, h => cases h; exact zs210
  | 11, h => cases h; exact zs211
  | 12, h => cases h; exact zs212
  | 13, h => cases h; exact zs213
  | 14, h => cases h; exact zs214
  | 15, h => cases h; exact zs215
  | 16, h => cases h; exact zs216
  | 17, h => cases h; exact zs217
  | 18, h => cases h; exact zs218
  | 19, h => cases h; exact zs219
  | n + 20, h => simp [zT_10] at h
theorem zTs_11 : ∀ (j : Nat) (l : List (Nat × z_O)), zT_11[j]? = some l → ∀ q ∈ l, z_q (220 + j) q := by
  intro j l h
  match j, h with
  | 0, h => cases h; exact zs220
  | 1, h => cases h; exact zs221
  | 2, h => cases h; exact zs222
  | 3, h => cases h; exact zs223
  | 4, h => cases h; exact zs224
  | 5, h => cases h; exact zs225
  | 6, h => cases h; exact zs226
  | 7, h => cases h; exact zs227
  | 8, h => cases h; exact zs228
  | 9, h => cases h; exact zs229
  | 10, h => cases h; exact zs230
  | 11, h => cases h; exact zs231
  | 12, h => cases h; exact zs232
  | 13, h => cases h; exact zs233
  | 14, h => cases h; exact zs234
  | 15, h => cases h; exact zs235
  | 16, h => cases h; exact zs236
  | 17, h => cases h; exact zs237
  | 18, h => cases h; exact zs238
  | 19, h => cases h; exact zs239
  | n + 20, h => simp [zT_11] at h
theorem zTs_12 : ∀ (j : Nat) (l : List (Nat × z_O)), zT_12[j]? = some l → ∀ q ∈ l, z_q (240 + j) q := by
  intro j l h
  match j, h with
  | 0, h => cases h; exact zs240
  | 1, h => cases h; exact zs241
  | 2, h => cases h; exact zs242
  | 3, h => cases h; exact zs243
  | 4, h => cases h; exact zs244
  | 5, h => cases h; exact zs245
  | 6, h => cases h; exact zs246
  | 7, h => cases h; exact zs247
  | 8, h => cases h; exact zs248
  | 9, h => cases h; exact zs249
  | 10, h => cases h; exact zs250
  | 11, h => cases h; exact zs251
  | 12, h => cases h; exact zs252
  | 13, h => cases h; exact zs253
  | 14, h => cases h; exact zs254
  | 15, h => cases h; exact zs255
  | 16, h => cases h; exact zs256
  | 17, h => cases h; exact zs257
  | 18, h => cases h; exact zs258
  | 19, h => cases h; exact zs259
  | n + 20, h => simp [zT_12] at h
theorem zTs_13 : ∀ (j : Nat) (l : List (Nat × z_O)), zT_13[j]? = some l → ∀ q ∈ l, z_q (260 + j) q := by
  intro j l h
  match j, h with
  | 0, h => cases h; exact zs260
  | 1, h => cases h; exact zs261
  | 2, h => cases h; exact zs262
  | 3, h => cases h; exact zs263
  | 4, h => cases h; exact zs264
  | 5, h => cases h; exact zs265
  | 6, h => cases h; exact zs266
  | 7, h => cases h; exact zs267
  | 8, h => cases h; exact zs268
  | 9, h => cases h; exact zs269
  | 10, h => cases h; exact zs270
  | 11, h => cases h; exact zs271
  | 12, h => cases h; exact zs272
  | 13, h => cases h; exact zs273
  | 14, h => cases h; exact zs274
  | 15, h => cases h; exact zs275
  | 16, h => cases h; exact zs276
  | 17, h => cases h; exact zs277
  | 18, h => cases h; exact zs278
  | 19, h => cases h; exact zs279
  | n + 20, h => simp [zT_13] at h
theorem zTs_14 : ∀ (j : Nat) (l : List (Nat × z_O)), zT_14[j]? = some l → ∀ q ∈ l, z_q (280 + j) q := by
  intro j l h
  match j, h with
  | 0, h => cases h; exact zs280
  | 1, h => cases h; exact zs281
  | 2, h => cases h; exact zs282
  | 3, h => cases h; exact zs283
  | 4, h => cases h; exact zs284
  | 5, h => cases h; exact zs285
  | 6, h => cases h; exact zs286
  | 7, h => cases h; exact zs287
  | 8, h => cases h; exact zs288
  | 9, h => cases h; exact zs289
  | 10, h => cases h; exact zs290
  | 11, h => cases h; exact zs291
  | 12, h => cases h; exact zs292
  | 13, h => cases h; exact zs293
  | 14, h => cases h; exact zs294
  | 15, h => cases h; exact zs295
  | 16, h => cases h; exact zs296
  | 17, h => cases h; exact zs297
  | 18, h => cases h; exact zs298
  | 19, h => cases h; exact zs299
  | n + 20, h => simp [zT_14] at h
theorem zTs_15 : ∀ (j : Nat) (l : List (Nat × z_O)), zT_15[j]? = some l → ∀ q ∈ l, z_q (300 + j) q := by
  intro j l h
  match j, h with
  | 0, h => cases h; exact zs300
  | n + 1, h => simp [zT_15] at h
theorem zTTs : ∀ (i : Nat) (L : List (List (Nat × z_O))), zTT[i]? = some L → ∀ (j : Nat) (l : List (Nat × z_O)), L[j]? = some l → ∀ q ∈ l, z_q (20 * i + j) q := by
  intro i L h
  match i, h with
  | 0, h => cases h; exact zTs_0
  | 1, h => cases h; exact zTs_1
  | 2, h => cases h; exact zTs_2
  | 3, h => cases h; exact zTs_3
  | 4, h => cases h; exact zTs_4
  | 5, h => cases h; exact zTs_5
  | 6, h => cases h; exact zTs_6
  | 7, h => cases h; exact zTs_7
  | 8, h => cases h; exact zTs_8
  | 9, h => cases h; exact zTs_9
  | 10, h => cases h; exact zTs_10
  | 11, h => cases h; exact zTs_11
  | 12, h => cases h; exact zTs_12
  | 13, h => cases h; exact zTs_13
  | 14, h => cases h; exact zTs_14
  | 15, h => cases h; exact zTs_15
  | n + 16, h => simp [zTT] at h
theorem z_tab_q (m : Nat) : ∀ q ∈ z_tab m, z_q m q := by
  intro q hq
  unfold z_tab at hq
  cases h1 : zTT[m / 20]? with
  | none => rw [List.getD_eq_getElem?_getD, List.getD_eq_getElem?_getD, h1] at hq; simp at hq
  | some L =>
    cases h2 : L[m % 20]? with
    | none => rw [List.getD_eq_getElem?_getD, List.getD_eq_getElem?_getD, h1] at hq; simp [h2] at hq
    | some l =>
      rw [List.getD_eq_getElem?_getD, List.getD_eq_getElem?_getD, h1] at hq
      simp [h2] at hq
      have := zTTs _ L h1 _ l h2 q hq
      rw [show 20 * (m / 20) + m % 20 = m by omega] at this
      exact this
theorem z_fd_q {m : Nat} : ∀ (l : List (Nat × z_O)) (pc : Nat), (∀ q ∈ l, z_q m q) → z_so m pc (z_fd l pc) ∧ z_mo (z_fd l pc)
  | [], pc, _ => ⟨fun _ _ _ _ _ _ h => h.elim, z_mo_bad⟩
  | (a, o) :: l, pc, h => by
    unfold z_fd
    cases e : Nat.beq a pc with
    | true =>
      have : a = pc := Nat.eq_of_beq_eq_true e
      subst this
      exact h _ List.mem_cons_self
    | false => exact z_fd_q l pc (fun q hq => h q (List.mem_cons_of_mem _ hq))
theorem z_T_so (m pc : Nat) : z_so m pc (z_T m pc) := (z_fd_q _ _ (z_tab_q m)).1
theorem z_T_mo (m pc : Nat) : z_mo (z_T m pc) := (z_fd_q _ _ (z_tab_q m)).2
/-- THE ABSTRACT JUDGEMENT IS SOUND -/
theorem z_sound {d u m pc ls st w Q} (h : z_G d u m pc ls st w Q) : z_J d u m pc ls st w Q := h z_J (fun d u m pc ls st w Q h => z_T_so m pc d u ls st w Q h)
theorem z_gun {d u m pc ls st w Q} {o : z_O} (h : z_T m pc = o) : z_G d u m pc ls st w Q ↔ o z_G d u m ls st w Q := by
  rw [← h]
  exact z_lf_un z_T_mo d u m pc ls st w Q
theorem z_q_mo {d u m pc ls st w} {P Q : z_P} (h : z_G d u m pc ls st w P) (hPQ : ∀ r w, P r w → Q r w) : z_G d u m pc ls st w Q := z_lf_q z_T_mo h hPQ
theorem z_G_and {d u m pc ls st w} {P Q : z_P} (hp : z_G d u m pc ls st w P) (hq : z_G d u m pc ls st w Q) : z_G d u m pc ls st w (fun r w => P r w ∧ Q r w) := z_lf_and z_T_mo hp hq
theorem z_gcaS {d m pc m' k nL nx : Nat} {u : Nat × Nat} {ls st : List z_V} {w : z_W} {Q : z_P} {vs : List z_V} (h : z_T m pc = z_ca m' k nL none nx) (hk : vs.length = k) (h8 : z_c8 vs nL = true) : z_G (d + 1) u m pc ls (vs.reverse ++ st) w Q ↔ (z_c8 st 8 = true ∧ z_G d (0, 0) m' 0 (z_pad vs nL) [] w (fun r w' => z_G (d + 1) u m nx ls (r.toList ++ st) w' Q)) := by
  rw [z_gun h]
  have e1 : ((vs.reverse ++ st).take k).reverse = vs := by
    rw [← hk, List.take_left' (by simp), List.reverse_reverse]
  have e2 : (vs.reverse ++ st).drop k = st := by rw [← hk, List.drop_left' (by simp)]
  show (k ≤ (vs.reverse ++ st).length ∧ True ∧ _) ↔ _
  rw [e1, e2]
  constructor
  · rintro ⟨-, -, a, -, P, b, c⟩
    exact ⟨a, z_q_mo b c⟩
  · rintro ⟨a, b⟩
    exact ⟨by simp; omega, trivial, a, h8, _, b, fun _ _ q => q⟩
theorem z_gcaV {d m pc m' k nL nx ci p : Nat} {u : Nat × Nat} {ls st : List z_V} {w : z_W} {Q : z_P} {vs : List z_V} (h : z_T m pc = z_ca m' k nL (some ci) nx) (hk : vs.length = k) (h8 : z_c8 vs nL = true) (hv : vs.head? = some (z_r p) := by rfl) : z_G (d + 1) u m pc ls (vs.reverse ++ st) w Q ↔ (z_k w p = ci ∧ z_c8 st 8 = true ∧ z_G d (0, 0) m' 0 (z_pad vs nL) [] w (fun r w' => z_G (d + 1) u m nx ls (r.toList ++ st) w' Q)) := by
  rw [z_gun h]
  have e1 : ((vs.reverse ++ st).take k).reverse = vs := by
    rw [← hk, List.take_left' (by simp), List.reverse_reverse]
  have e2 : (vs.reverse ++ st).drop k = st := by rw [← hk, List.drop_left' (by simp)]
  show (k ≤ (vs.reverse ++ st).length ∧ (∃ p, ((vs.reverse ++ st).take k).reverse.head? = some (z_r p) ∧ z_k w p = ci) ∧ _) ↔ _
  rw [e1, e2]
  constructor
  · rintro ⟨-, ⟨q, q1, q2⟩, a, -, P, b, c⟩
    rw [hv] at q1
    cases q1
    exact ⟨q2, a, z_q_mo b c⟩
  · rintro ⟨q, a, b⟩
    exact ⟨by simp; omega, ⟨p, hv, q⟩, a, h8, _, b, fun _ _ q => q⟩
theorem z_gcbS {d m pc m' k nL nx : Nat} {u b : Nat × Nat} {ls st : List z_V} {w : z_W} {Q : z_P} {vs : List z_V} (h : z_T m pc = z_cb m' k nL none b nx) (hk : vs.length = k) (h8 : z_c8 vs nL = true) : z_G (d + 1) u m pc ls (vs.reverse ++ st) w Q ↔ (z_c8 st 8 = true ∧ b.1 ≤ u.1 ∧ b.2 ≤ u.2 ∧ z_G d b m' 0 (z_pad vs nL) [] w (fun r w' => z_G (d + 1) (u.1 - b.1, u.2 - b.2) m nx ls (r.toList ++ st) w' Q)) := by
  rw [z_gun h]
  have e1 : ((vs.reverse ++ st).take k).reverse = vs := by
    rw [← hk, List.take_left' (by simp), List.reverse_reverse]
  have e2 : (vs.reverse ++ st).drop k = st := by rw [← hk, List.drop_left' (by simp)]
  show (k ≤ (vs.reverse ++ st).length ∧ True ∧ _) ↔ _
  rw [e1, e2]
  constructor
  · rintro ⟨-, -, a, -, b1, b2, P, b, c⟩
    exact ⟨a, b1, b2, z_q_mo b c⟩
  · rintro ⟨a, b1, b2, b⟩
    exact ⟨by simp; omega, trivial, a, h8, b1, b2, _, b, fun _ _ q => q⟩
theorem z_gcbV {d m pc m' k nL nx ci p : Nat} {u b : Nat × Nat} {ls st : List z_V} {w : z_W} {Q : z_P} {vs : List z_V} (h : z_T m pc = z_cb m' k nL (some ci) b nx) (hk : vs.length = k) (h8 : z_c8 vs nL = true) (hv : vs.head? = some (z_r p) := by rfl) : z_G (d + 1) u m pc ls (vs.reverse ++ st) w Q ↔ (z_k w p = ci ∧ z_c8 st 8 = true ∧ b.1 ≤ u.1 ∧ b.2 ≤ u.2 ∧ z_G d b m' 0 (z_pad vs nL) [] w (fun r w' => z_G (d + 1) (u.1 - b.1, u.2 - b.2) m nx ls (r.toList ++ st) w' Q)) := by
  rw [z_gun h]
  have e1 : ((vs.reverse ++ st).take k).reverse = vs := by
    rw [← hk, List.take_left' (by simp), List.reverse_reverse]
  have e2 : (vs.reverse ++ st).drop k = st := by rw [← hk, List.drop_left' (by simp)]
  show (k ≤ (vs.reverse ++ st).length ∧ (∃ p, ((vs.reverse ++ st).take k).reverse.head? = some (z_r p) ∧ z_k w p = ci) ∧ _) ↔ _
  rw [e1, e2]
  constructor
  · rintro ⟨-, ⟨q, q1, q2⟩, a, -, b1, b2, P, b, c⟩
    rw [hv] at q1
    cases q1
    exact ⟨q2, a, b1, b2, z_q_mo b c⟩
  · rintro ⟨q, a, b1, b2, b⟩
    exact ⟨by simp; omega, ⟨p, hv, q⟩, a, h8, b1, b2, _, b, fun _ _ q => q⟩
theorem z_fd_skip : ∀ (l r : List (Nat × z_O)) (pc : Nat), (∀ q ∈ l, q.1 < pc) → z_fd (l ++ r) pc = z_fd r pc
  | [], _, _, _ => rfl
  | (a, o) :: l, r, pc, h => by
    have h1 : a < pc := h (a, o) List.mem_cons_self
    show (bif Nat.beq a pc then o else z_fd (l ++ r) pc) = z_fd r pc
    have e : Nat.beq a pc = false := by
      cases q : Nat.beq a pc with
      | true => exact absurd (Nat.eq_of_beq_eq_true q) (by omega)
      | false => rfl
    rw [e]
    exact z_fd_skip l r pc (fun q hq => h q (List.mem_cons_of_mem _ hq))
