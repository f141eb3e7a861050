/-! BASE: methods, their links -/
abbrev mJ0_charAt_5068e : Md := (yJ0_charAt_5068e, cJ0_charAt_5068e, 2, (some .char))
theorem pn_J0_charAt_5068e : plainName mJ0_charAt_5068e.1.cls = true := by decide +kernel
abbrev mJ0_checkIndex_df160 : Md := (yJ0_checkIndex_df160, cJ0_checkIndex_df160, 2, none)
theorem pn_J0_checkIndex_df160 : plainName mJ0_checkIndex_df160.1.cls = true := by decide +kernel
abbrev mJ0_coder_7d493 : Md := (yJ0_coder_7d493, cJ0_coder_7d493, 1, (some .byte))
theorem pn_J0_coder_7d493 : plainName mJ0_coder_7d493.1.cls = true := by decide +kernel
abbrev mJ0_indexOf_0f7a4 : Md := (yJ0_indexOf_0f7a4, cJ0_indexOf_0f7a4, 2, (some .int))
theorem pn_J0_indexOf_0f7a4 : plainName mJ0_indexOf_0f7a4.1.cls = true := by decide +kernel
abbrev mJ0_indexOf_7cf53 : Md := (yJ0_indexOf_7cf53, cJ0_indexOf_7cf53, 3, (some .int))
theorem pn_J0_indexOf_7cf53 : plainName mJ0_indexOf_7cf53.1.cls = true := by decide +kernel
abbrev mJ0_isLatin1_aae02 : Md := (yJ0_isLatin1_aae02, cJ0_isLatin1_aae02, 1, (some .boolean))
theorem pn_J0_isLatin1_aae02 : plainName mJ0_isLatin1_aae02.1.cls = true := by decide +kernel
abbrev mJ0_length_8abf5 : Md := (yJ0_length_8abf5, cJ0_length_8abf5, 1, (some .int))
theorem pn_J0_length_8abf5 : plainName mJ0_length_8abf5.1.cls = true := by decide +kernel
abbrev mJ1_canEncode_9a6ad : Md := (yJ1_canEncode_9a6ad, cJ1_canEncode_9a6ad, 1, (some .boolean))
theorem pn_J1_canEncode_9a6ad : plainName mJ1_canEncode_9a6ad.1.cls = true := by decide +kernel
abbrev mJ1_charAt_3b067 : Md := (yJ1_charAt_3b067, cJ1_charAt_3b067, 2, (some .char))
theorem pn_J1_charAt_3b067 : plainName mJ1_charAt_3b067.1.cls = true := by decide +kernel
abbrev mJ1_indexOfChar_4cfef : Md := (yJ1_indexOfChar_4cfef, cJ1_indexOfChar_4cfef, 6, (some .int))
theorem pn_J1_indexOfChar_4cfef : plainName mJ1_indexOfChar_4cfef.1.cls = true := by decide +kernel
abbrev mJ1_indexOf_4cfef : Md := (yJ1_indexOf_4cfef, cJ1_indexOf_4cfef, 4, (some .int))
theorem pn_J1_indexOf_4cfef : plainName mJ1_indexOf_4cfef.1.cls = true := by decide +kernel
abbrev mJ3_checkIndex_8e157 : Md := (yJ3_checkIndex_8e157, cJ3_checkIndex_8e157, 3, (some .int))
theorem pn_J3_checkIndex_8e157 : plainName mJ3_checkIndex_8e157.1.cls = true := by decide +kernel
abbrev mL_alike : Md := (yL_alike, cL_alike, 5, (some .int))
theorem pn_L_alike : plainName mL_alike.1.cls = true := by decide +kernel
abbrev mL_append : Md := (yL_append, cL_append, 5, (some .int))
theorem pn_L_append : plainName mL_append.1.cls = true := by decide +kernel
abbrev mL_begin : Md := (yL_begin, cL_begin, 5, (some .int))
theorem pn_L_begin : plainName mL_begin.1.cls = true := by decide +kernel
abbrev mL_copy : Md := (yL_copy, cL_copy, 5, (some .int))
theorem pn_L_copy : plainName mL_copy.1.cls = true := by decide +kernel
abbrev mL_drop : Md := (yL_drop, cL_drop, 3, (some .int))
theorem pn_L_drop : plainName mL_drop.1.cls = true := by decide +kernel
abbrev mL_escape : Md := (yL_escape, cL_escape, 5, (some .int))
theorem pn_L_escape : plainName mL_escape.1.cls = true := by decide +kernel
abbrev mL_isAbsolute : Md := (yL_isAbsolute, cL_isAbsolute, 4, (some .int))
theorem pn_L_isAbsolute : plainName mL_isAbsolute.1.cls = true := by decide +kernel
abbrev mL_isOpaque : Md := (yL_isOpaque, cL_isOpaque, 4, (some .int))
theorem pn_L_isOpaque : plainName mL_isOpaque.1.cls = true := by decide +kernel
abbrev mL_isThere : Md := (yL_isThere, cL_isThere, 4, (some .int))
theorem pn_L_isThere : plainName mL_isThere.1.cls = true := by decide +kernel
abbrev mL_isTold : Md := (yL_isTold, cL_isTold, 3, (some .int))
theorem pn_L_isTold : plainName mL_isTold.1.cls = true := by decide +kernel
abbrev mL_mix : Md := (yL_mix, cL_mix, 6, (some .int))
theorem pn_L_mix : plainName mL_mix.1.cls = true := by decide +kernel
abbrev mL_parse : Md := (yL_parse, cL_parse, 4, (some .int))
theorem pn_L_parse : plainName mL_parse.1.cls = true := by decide +kernel
abbrev mL_partSign : Md := (yL_partSign, cL_partSign, 6, (some .int))
theorem pn_L_partSign : plainName mL_partSign.1.cls = true := by decide +kernel
abbrev mL_port : Md := (yL_port, cL_port, 4, (some .int))
theorem pn_L_port : plainName mL_port.1.cls = true := by decide +kernel
abbrev mL_refusedAt : Md := (yL_refusedAt, cL_refusedAt, 3, (some .int))
theorem pn_L_refusedAt : plainName mL_refusedAt.1.cls = true := by decide +kernel
abbrev mL_signAt : Md := (yL_signAt, cL_signAt, 4, (some .int))
theorem pn_L_signAt : plainName mL_signAt.1.cls = true := by decide +kernel
abbrev mL_size : Md := (yL_size, cL_size, 5, (some .int))
theorem pn_L_size : plainName mL_size.1.cls = true := by decide +kernel
abbrev mL_together : Md := (yL_together, cL_together, 4, (some .int))
theorem pn_L_together : plainName mL_together.1.cls = true := by decide +kernel
abbrev mL_type : Md := (yL_type, cL_type, 4, (some .int))
theorem pn_L_type : plainName mL_type.1.cls = true := by decide +kernel
abbrev mL_word : Md := (yL_word, cL_word, 4, (some .int))
theorem pn_L_word : plainName mL_word.1.cls = true := by decide +kernel
abbrev mX0_beginOf : Md := (yX0_beginOf, cX0_beginOf, 2, (some .int))
theorem pn_X0_beginOf : plainName mX0_beginOf.1.cls = true := by decide +kernel
abbrev mX0_endOf : Md := (yX0_endOf, cX0_endOf, 2, (some .int))
theorem pn_X0_endOf : plainName mX0_endOf.1.cls = true := by decide +kernel
abbrev mX0_forget : Md := (yX0_forget, cX0_forget, 2, none)
theorem pn_X0_forget : plainName mX0_forget.1.cls = true := by decide +kernel
abbrev mX0_has : Md := (yX0_has, cX0_has, 2, (some .boolean))
theorem pn_X0_has : plainName mX0_has.1.cls = true := by decide +kernel
abbrev mX0_init : Md := (yX0_init, cX0_init, 1, none)
theorem pn_X0_init : plainName mX0_init.1.cls = true := by decide +kernel
abbrev mX0_isHeld : Md := (yX0_isHeld, cX0_isHeld, 1, (some .boolean))
theorem pn_X0_isHeld : plainName mX0_isHeld.1.cls = true := by decide +kernel
abbrev mX0_isPartAlike : Md := (yX0_isPartAlike, cX0_isPartAlike, 3, (some .boolean))
theorem pn_X0_isPartAlike : plainName mX0_isPartAlike.1.cls = true := by decide +kernel
abbrev mX0_isSkippingSlashes : Md := (yX0_isSkippingSlashes, cX0_isSkippingSlashes, 1, (some .boolean))
theorem pn_X0_isSkippingSlashes : plainName mX0_isSkippingSlashes.1.cls = true := by decide +kernel
abbrev mX0_isWhole : Md := (yX0_isWhole, cX0_isWhole, 2, (some .boolean))
theorem pn_X0_isWhole : plainName mX0_isWhole.1.cls = true := by decide +kernel
abbrev mX0_isWholeWithoutSlashes : Md := (yX0_isWholeWithoutSlashes, cX0_isWholeWithoutSlashes, 3, (some .boolean))
theorem pn_X0_isWholeWithoutSlashes : plainName mX0_isWholeWithoutSlashes.1.cls = true := by decide +kernel
abbrev mX0_mark : Md := (yX0_mark, cX0_mark, 4, none)
theorem pn_X0_mark : plainName mX0_mark.1.cls = true := by decide +kernel
abbrev mX0_partsAlike : Md := (yX0_partsAlike, cX0_partsAlike, 4, (some .int))
theorem pn_X0_partsAlike : plainName mX0_partsAlike.1.cls = true := by decide +kernel
abbrev mX0_portNumber : Md := (yX0_portNumber, cX0_portNumber, 1, (some .int))
theorem pn_X0_portNumber : plainName mX0_portNumber.1.cls = true := by decide +kernel
abbrev mX0_putPart : Md := (yX0_putPart, cX0_putPart, 3, none)
theorem pn_X0_putPart : plainName mX0_putPart.1.cls = true := by decide +kernel
abbrev mX0_setHeld : Md := (yX0_setHeld, cX0_setHeld, 2, none)
theorem pn_X0_setHeld : plainName mX0_setHeld.1.cls = true := by decide +kernel
abbrev mX0_setPort : Md := (yX0_setPort, cX0_setPort, 2, none)
theorem pn_X0_setPort : plainName mX0_setPort.1.cls = true := by decide +kernel
abbrev mX0_signOf : Md := (yX0_signOf, cX0_signOf, 3, (some .char))
theorem pn_X0_signOf : plainName mX0_signOf.1.cls = true := by decide +kernel
abbrev mX0_sizeOf : Md := (yX0_sizeOf, cX0_sizeOf, 2, (some .int))
theorem pn_X0_sizeOf : plainName mX0_sizeOf.1.cls = true := by decide +kernel
abbrev mX0_sumBehind : Md := (yX0_sumBehind, cX0_sumBehind, 6, (some .long))
theorem pn_X0_sumBehind : plainName mX0_sumBehind.1.cls = true := by decide +kernel
abbrev mX0_takeOver : Md := (yX0_takeOver, cX0_takeOver, 3, none)
theorem pn_X0_takeOver : plainName mX0_takeOver.1.cls = true := by decide +kernel
abbrev mX0_whole : Md := (yX0_whole, cX0_whole, 1, (some (.object "Linkloom$Text")))
theorem pn_X0_whole : plainName mX0_whole.1.cls = true := by decide +kernel
abbrev mX1_address : Md := (yX1_address, cX1_address, 1, (some (.object "Linkloom$Address")))
theorem pn_X1_address : plainName mX1_address.1.cls = true := by decide +kernel
abbrev mX1_cut : Md := (yX1_cut, cX1_cut, 5, (some .int))
theorem pn_X1_cut : plainName mX1_cut.1.cls = true := by decide +kernel
abbrev mX1_cutAuthority : Md := (yX1_cutAuthority, cX1_cutAuthority, 4, (some .int))
theorem pn_X1_cutAuthority : plainName mX1_cutAuthority.1.cls = true := by decide +kernel
abbrev mX1_cutFragment : Md := (yX1_cutFragment, cX1_cutFragment, 3, none)
theorem pn_X1_cutFragment : plainName mX1_cutFragment.1.cls = true := by decide +kernel
abbrev mX1_cutOpaque : Md := (yX1_cutOpaque, cX1_cutOpaque, 3, (some .int))
theorem pn_X1_cutOpaque : plainName mX1_cutOpaque.1.cls = true := by decide +kernel
abbrev mX1_cutPart : Md := (yX1_cutPart, cX1_cutPart, 6, (some .int))
theorem pn_X1_cutPart : plainName mX1_cutPart.1.cls = true := by decide +kernel
abbrev mX1_cutPathAndQuery : Md := (yX1_cutPathAndQuery, cX1_cutPathAndQuery, 4, (some .int))
theorem pn_X1_cutPathAndQuery : plainName mX1_cutPathAndQuery.1.cls = true := by decide +kernel
abbrev mX1_cutScheme : Md := (yX1_cutScheme, cX1_cutScheme, 3, none)
theorem pn_X1_cutScheme : plainName mX1_cutScheme.1.cls = true := by decide +kernel
abbrev mX1_cutServer : Md := (yX1_cutServer, cX1_cutServer, 7, none)
theorem pn_X1_cutServer : plainName mX1_cutServer.1.cls = true := by decide +kernel
abbrev mX1_init : Md := (yX1_init, cX1_init, 1, none)
theorem pn_X1_init : plainName mX1_init.1.cls = true := by decide +kernel
abbrev mX1_refuse : Md := (yX1_refuse, cX1_refuse, 2, none)
theorem pn_X1_refuse : plainName mX1_refuse.1.cls = true := by decide +kernel
abbrev mX2_isAuthorityBad : Md := (yX2_isAuthorityBad, cX2_isAuthorityBad, 4, (some .boolean))
theorem pn_X2_isAuthorityBad : plainName mX2_isAuthorityBad.1.cls = true := by decide +kernel
abbrev mX2_isDigit : Md := (yX2_isDigit, cX2_isDigit, 1, (some .boolean))
theorem pn_X2_isDigit : plainName mX2_isDigit.1.cls = true := by decide +kernel
abbrev mX2_isFourNumbers : Md := (yX2_isFourNumbers, cX2_isFourNumbers, 6, (some .boolean))
theorem pn_X2_isFourNumbers : plainName mX2_isFourNumbers.1.cls = true := by decide +kernel
abbrev mX2_isLabel : Md := (yX2_isLabel, cX2_isLabel, 5, (some .boolean))
theorem pn_X2_isLabel : plainName mX2_isLabel.1.cls = true := by decide +kernel
abbrev mX2_isLetter : Md := (yX2_isLetter, cX2_isLetter, 1, (some .boolean))
theorem pn_X2_isLetter : plainName mX2_isLetter.1.cls = true := by decide +kernel
abbrev mX2_isName : Md := (yX2_isName, cX2_isName, 7, (some .boolean))
theorem pn_X2_isName : plainName mX2_isName.1.cls = true := by decide +kernel
abbrev mX2_isPort : Md := (yX2_isPort, cX2_isPort, 3, (some .boolean))
theorem pn_X2_isPort : plainName mX2_isPort.1.cls = true := by decide +kernel
abbrev mX2_isSlashed : Md := (yX2_isSlashed, cX2_isSlashed, 2, (some .boolean))
theorem pn_X2_isSlashed : plainName mX2_isSlashed.1.cls = true := by decide +kernel
abbrev mX2_numberIn : Md := (yX2_numberIn, cX2_numberIn, 8, (some .int))
theorem pn_X2_numberIn : plainName mX2_numberIn.1.cls = true := by decide +kernel
abbrev mX2_schemeColon : Md := (yX2_schemeColon, cX2_schemeColon, 2, (some .int))
theorem pn_X2_schemeColon : plainName mX2_schemeColon.1.cls = true := by decide +kernel
abbrev mX2_wrongInScheme : Md := (yX2_wrongInScheme, cX2_wrongInScheme, 4, (some .int))
theorem pn_X2_wrongInScheme : plainName mX2_wrongInScheme.1.cls = true := by decide +kernel
abbrev mX3_at : Md := (yX3_at, cX3_at, 2, (some .char))
theorem pn_X3_at : plainName mX3_at.1.cls = true := by decide +kernel
abbrev mX3_count : Md := (yX3_count, cX3_count, 1, (some .int))
theorem pn_X3_count : plainName mX3_count.1.cls = true := by decide +kernel
abbrev mX3_init : Md := (yX3_init, cX3_init, 1, none)
theorem pn_X3_init : plainName mX3_init.1.cls = true := by decide +kernel
abbrev mX3_isRange : Md := (yX3_isRange, cX3_isRange, 6, (some .boolean))
theorem pn_X3_isRange : plainName mX3_isRange.1.cls = true := by decide +kernel
abbrev mX3_next : Md := (yX3_next, cX3_next, 5, (some .int))
theorem pn_X3_next : plainName mX3_next.1.cls = true := by decide +kernel
abbrev mX3_put : Md := (yX3_put, cX3_put, 2, none)
theorem pn_X3_put : plainName mX3_put.1.cls = true := by decide +kernel
abbrev mX3_putAll : Md := (yX3_putAll, cX3_putAll, 3, none)
theorem pn_X3_putAll : plainName mX3_putAll.1.cls = true := by decide +kernel
abbrev mX3_putRange : Md := (yX3_putRange, cX3_putRange, 5, none)
theorem pn_X3_putRange : plainName mX3_putRange.1.cls = true := by decide +kernel
abbrev mX3_shorten : Md := (yX3_shorten, cX3_shorten, 2, none)
theorem pn_X3_shorten : plainName mX3_shorten.1.cls = true := by decide +kernel
abbrev mX3_takeOver : Md := (yX3_takeOver, cX3_takeOver, 3, none)
theorem pn_X3_takeOver : plainName mX3_takeOver.1.cls = true := by decide +kernel
abbrev mX4_addressAt : Md := (yX4_addressAt, cX4_addressAt, 3, (some (.object "Linkloom$Address")))
theorem pn_X4_addressAt : plainName mX4_addressAt.1.cls = true := by decide +kernel
abbrev mX4_alike : Md := (yX4_alike, cX4_alike, 5, (some .int))
theorem pn_X4_alike : plainName mX4_alike.1.cls = true := by decide +kernel
abbrev mX4_append : Md := (yX4_append, cX4_append, 5, (some .int))
theorem pn_X4_append : plainName mX4_append.1.cls = true := by decide +kernel
abbrev mX4_begin : Md := (yX4_begin, cX4_begin, 5, (some .int))
theorem pn_X4_begin : plainName mX4_begin.1.cls = true := by decide +kernel
abbrev mX4_checkHeld : Md := (yX4_checkHeld, cX4_checkHeld, 1, none)
theorem pn_X4_checkHeld : plainName mX4_checkHeld.1.cls = true := by decide +kernel
abbrev mX4_checkRefused : Md := (yX4_checkRefused, cX4_checkRefused, 1, none)
theorem pn_X4_checkRefused : plainName mX4_checkRefused.1.cls = true := by decide +kernel
abbrev mX4_checkRoom : Md := (yX4_checkRoom, cX4_checkRoom, 2, none)
theorem pn_X4_checkRoom : plainName mX4_checkRoom.1.cls = true := by decide +kernel
abbrev mX4_checksum : Md := (yX4_checksum, cX4_checksum, 7, (some .long))
theorem pn_X4_checksum : plainName mX4_checksum.1.cls = true := by decide +kernel
abbrev mX4_copy : Md := (yX4_copy, cX4_copy, 9, (some .int))
theorem pn_X4_copy : plainName mX4_copy.1.cls = true := by decide +kernel
abbrev mX4_drop : Md := (yX4_drop, cX4_drop, 3, (some .int))
theorem pn_X4_drop : plainName mX4_drop.1.cls = true := by decide +kernel
abbrev mX4_escape : Md := (yX4_escape, cX4_escape, 4, (some .int))
theorem pn_X4_escape : plainName mX4_escape.1.cls = true := by decide +kernel
abbrev mX4_init : Md := (yX4_init, cX4_init, 2, none)
theorem pn_X4_init : plainName mX4_init.1.cls = true := by decide +kernel
abbrev mX4_isAbsolute : Md := (yX4_isAbsolute, cX4_isAbsolute, 2, (some .boolean))
theorem pn_X4_isAbsolute : plainName mX4_isAbsolute.1.cls = true := by decide +kernel
abbrev mX4_isOpaque : Md := (yX4_isOpaque, cX4_isOpaque, 2, (some .boolean))
theorem pn_X4_isOpaque : plainName mX4_isOpaque.1.cls = true := by decide +kernel
abbrev mX4_isSameAnew : Md := (yX4_isSameAnew, cX4_isSameAnew, 2, (some .boolean))
theorem pn_X4_isSameAnew : plainName mX4_isSameAnew.1.cls = true := by decide +kernel
abbrev mX4_isThere : Md := (yX4_isThere, cX4_isThere, 2, (some .boolean))
theorem pn_X4_isThere : plainName mX4_isThere.1.cls = true := by decide +kernel
abbrev mX4_isThreeParts : Md := (yX4_isThreeParts, cX4_isThreeParts, 2, (some .boolean))
theorem pn_X4_isThreeParts : plainName mX4_isThreeParts.1.cls = true := by decide +kernel
abbrev mX4_isTold : Md := (yX4_isTold, cX4_isTold, 1, (some .boolean))
theorem pn_X4_isTold : plainName mX4_isTold.1.cls = true := by decide +kernel
abbrev mX4_isTrue : Md := (yX4_isTrue, cX4_isTrue, 5, (some .boolean))
theorem pn_X4_isTrue : plainName mX4_isTrue.1.cls = true := by decide +kernel
abbrev mX4_isWovenAgain : Md := (yX4_isWovenAgain, cX4_isWovenAgain, 2, (some .boolean))
theorem pn_X4_isWovenAgain : plainName mX4_isWovenAgain.1.cls = true := by decide +kernel
abbrev mX4_length : Md := (yX4_length, cX4_length, 1, (some .int))
theorem pn_X4_length : plainName mX4_length.1.cls = true := by decide +kernel
abbrev mX4_mix : Md := (yX4_mix, cX4_mix, 6, (some .int))
theorem pn_X4_mix : plainName mX4_mix.1.cls = true := by decide +kernel
abbrev mX4_parse : Md := (yX4_parse, cX4_parse, 4, (some .int))
theorem pn_X4_parse : plainName mX4_parse.1.cls = true := by decide +kernel
abbrev mX4_partOf : Md := (yX4_partOf, cX4_partOf, 2, (some .int))
theorem pn_X4_partOf : plainName mX4_partOf.1.cls = true := by decide +kernel
abbrev mX4_partSign : Md := (yX4_partSign, cX4_partSign, 6, (some .char))
theorem pn_X4_partSign : plainName mX4_partSign.1.cls = true := by decide +kernel
abbrev mX4_port : Md := (yX4_port, cX4_port, 2, (some .int))
theorem pn_X4_port : plainName mX4_port.1.cls = true := by decide +kernel
abbrev mX4_refusals : Md := (yX4_refusals, cX4_refusals, 1, (some .int))
theorem pn_X4_refusals : plainName mX4_refusals.1.cls = true := by decide +kernel
abbrev mX4_refusedAt : Md := (yX4_refusedAt, cX4_refusedAt, 1, (some .int))
theorem pn_X4_refusedAt : plainName mX4_refusedAt.1.cls = true := by decide +kernel
abbrev mX4_signAt : Md := (yX4_signAt, cX4_signAt, 2, (some .char))
theorem pn_X4_signAt : plainName mX4_signAt.1.cls = true := by decide +kernel
abbrev mX4_size : Md := (yX4_size, cX4_size, 5, (some .int))
theorem pn_X4_size : plainName mX4_size.1.cls = true := by decide +kernel
abbrev mX4_slotAt : Md := (yX4_slotAt, cX4_slotAt, 2, (some (.object "Linkloom$Address")))
theorem pn_X4_slotAt : plainName mX4_slotAt.1.cls = true := by decide +kernel
abbrev mX4_together : Md := (yX4_together, cX4_together, 3, (some .boolean))
theorem pn_X4_together : plainName mX4_together.1.cls = true := by decide +kernel
abbrev mX4_type : Md := (yX4_type, cX4_type, 2, (some .int))
theorem pn_X4_type : plainName mX4_type.1.cls = true := by decide +kernel
abbrev mX4_weave : Md := (yX4_weave, cX4_weave, 4, none)
theorem pn_X4_weave : plainName mX4_weave.1.cls = true := by decide +kernel
abbrev mX4_weavePart : Md := (yX4_weavePart, cX4_weavePart, 5, none)
theorem pn_X4_weavePart : plainName mX4_weavePart.1.cls = true := by decide +kernel
abbrev mX4_wipe : Md := (yX4_wipe, cX4_wipe, 2, (some .int))
theorem pn_X4_wipe : plainName mX4_wipe.1.cls = true := by decide +kernel
abbrev mX4_word : Md := (yX4_word, cX4_word, 3, (some .int))
theorem pn_X4_word : plainName mX4_word.1.cls = true := by decide +kernel
abbrev mX4_wordAt : Md := (yX4_wordAt, cX4_wordAt, 1, (some (.object "java/lang/String")))
theorem pn_X4_wordAt : plainName mX4_wordAt.1.cls = true := by decide +kernel
abbrev mX5_add : Md := (yX5_add, cX5_add, 4, none)
theorem pn_X5_add : plainName mX5_add.1.cls = true := by decide +kernel
abbrev mX5_alike : Md := (yX5_alike, cX5_alike, 5, (some .int))
theorem pn_X5_alike : plainName mX5_alike.1.cls = true := by decide +kernel
abbrev mX5_all : Md := (yX5_all, cX5_all, 8, none)
theorem pn_X5_all : plainName mX5_all.1.cls = true := by decide +kernel
abbrev mX5_append : Md := (yX5_append, cX5_append, 4, (some .int))
theorem pn_X5_append : plainName mX5_append.1.cls = true := by decide +kernel
abbrev mX5_authority : Md := (yX5_authority, cX5_authority, 9, none)
theorem pn_X5_authority : plainName mX5_authority.1.cls = true := by decide +kernel
abbrev mX5_bad : Md := (yX5_bad, cX5_bad, 4, (some .int))
theorem pn_X5_bad : plainName mX5_bad.1.cls = true := by decide +kernel
abbrev mX5_begin : Md := (yX5_begin, cX5_begin, 3, (some .int))
theorem pn_X5_begin : plainName mX5_begin.1.cls = true := by decide +kernel
abbrev mX5_canType : Md := (yX5_canType, cX5_canType, 1, (some .boolean))
theorem pn_X5_canType : plainName mX5_canType.1.cls = true := by decide +kernel
abbrev mX5_checksum : Md := (yX5_checksum, cX5_checksum, 5, (some .long))
theorem pn_X5_checksum : plainName mX5_checksum.1.cls = true := by decide +kernel
abbrev mX5_copy : Md := (yX5_copy, cX5_copy, 5, (some .int))
theorem pn_X5_copy : plainName mX5_copy.1.cls = true := by decide +kernel
abbrev mX5_cut : Md := (yX5_cut, cX5_cut, 4, none)
theorem pn_X5_cut : plainName mX5_cut.1.cls = true := by decide +kernel
abbrev mX5_digit : Md := (yX5_digit, cX5_digit, 2, (some .int))
theorem pn_X5_digit : plainName mX5_digit.1.cls = true := by decide +kernel
abbrev mX5_drop : Md := (yX5_drop, cX5_drop, 1, (some .int))
theorem pn_X5_drop : plainName mX5_drop.1.cls = true := by decide +kernel
abbrev mX5_escape : Md := (yX5_escape, cX5_escape, 3, (some .int))
theorem pn_X5_escape : plainName mX5_escape.1.cls = true := by decide +kernel
abbrev mX5_fails : Md := (yX5_fails, cX5_fails, 2, (some .boolean))
theorem pn_X5_fails : plainName mX5_fails.1.cls = true := by decide +kernel
abbrev mX5_has : Md := (yX5_has, cX5_has, 3, (some .boolean))
theorem pn_X5_has : plainName mX5_has.1.cls = true := by decide +kernel
abbrev mX5_in : Md := (yX5_in, cX5_in, 3, (some .boolean))
theorem pn_X5_in : plainName mX5_in.1.cls = true := by decide +kernel
abbrev mX5_init : Md := (yX5_init, cX5_init, 1, none)
theorem pn_X5_init : plainName mX5_init.1.cls = true := by decide +kernel
abbrev mX5_isAbsolute : Md := (yX5_isAbsolute, cX5_isAbsolute, 2, (some .boolean))
theorem pn_X5_isAbsolute : plainName mX5_isAbsolute.1.cls = true := by decide +kernel
abbrev mX5_isAlike : Md := (yX5_isAlike, cX5_isAlike, 5, (some .boolean))
theorem pn_X5_isAlike : plainName mX5_isAlike.1.cls = true := by decide +kernel
abbrev mX5_isAt : Md := (yX5_isAt, cX5_isAt, 3, (some .boolean))
theorem pn_X5_isAt : plainName mX5_isAt.1.cls = true := by decide +kernel
abbrev mX5_isBad : Md := (yX5_isBad, cX5_isBad, 1, (some .boolean))
theorem pn_X5_isBad : plainName mX5_isBad.1.cls = true := by decide +kernel
abbrev mX5_isDigit : Md := (yX5_isDigit, cX5_isDigit, 1, (some .boolean))
theorem pn_X5_isDigit : plainName mX5_isDigit.1.cls = true := by decide +kernel
abbrev mX5_isLabels : Md := (yX5_isLabels, cX5_isLabels, 7, (some .boolean))
theorem pn_X5_isLabels : plainName mX5_isLabels.1.cls = true := by decide +kernel
abbrev mX5_isLetter : Md := (yX5_isLetter, cX5_isLetter, 1, (some .boolean))
theorem pn_X5_isLetter : plainName mX5_isLetter.1.cls = true := by decide +kernel
abbrev mX5_isNumbers : Md := (yX5_isNumbers, cX5_isNumbers, 6, (some .boolean))
theorem pn_X5_isNumbers : plainName mX5_isNumbers.1.cls = true := by decide +kernel
abbrev mX5_isOpaque : Md := (yX5_isOpaque, cX5_isOpaque, 2, (some .boolean))
theorem pn_X5_isOpaque : plainName mX5_isOpaque.1.cls = true := by decide +kernel
abbrev mX5_isSlot : Md := (yX5_isSlot, cX5_isSlot, 1, (some .boolean))
theorem pn_X5_isSlot : plainName mX5_isSlot.1.cls = true := by decide +kernel
abbrev mX5_isThere : Md := (yX5_isThere, cX5_isThere, 2, (some .boolean))
theorem pn_X5_isThere : plainName mX5_isThere.1.cls = true := by decide +kernel
abbrev mX5_isTold : Md := (yX5_isTold, cX5_isTold, 1, (some .boolean))
theorem pn_X5_isTold : plainName mX5_isTold.1.cls = true := by decide +kernel
abbrev mX5_isTrue : Md := (yX5_isTrue, cX5_isTrue, 1, (some .boolean))
theorem pn_X5_isTrue : plainName mX5_isTrue.1.cls = true := by decide +kernel
abbrev mX5_length : Md := (yX5_length, cX5_length, 1, (some .int))
theorem pn_X5_length : plainName mX5_length.1.cls = true := by decide +kernel
abbrev mX5_many : Md := (yX5_many, cX5_many, 3, (some .int))
theorem pn_X5_many : plainName mX5_many.1.cls = true := by decide +kernel
abbrev mX5_mix : Md := (yX5_mix, cX5_mix, 9, (some .int))
theorem pn_X5_mix : plainName mX5_mix.1.cls = true := by decide +kernel
abbrev mX5_next : Md := (yX5_next, cX5_next, 4, (some .int))
theorem pn_X5_next : plainName mX5_next.1.cls = true := by decide +kernel
abbrev mX5_noPart : Md := (yX5_noPart, cX5_noPart, 3, (some .int))
theorem pn_X5_noPart : plainName mX5_noPart.1.cls = true := by decide +kernel
abbrev mX5_noSlot : Md := (yX5_noSlot, cX5_noSlot, 2, (some .int))
theorem pn_X5_noSlot : plainName mX5_noSlot.1.cls = true := by decide +kernel
abbrev mX5_parse : Md := (yX5_parse, cX5_parse, 5, (some .int))
theorem pn_X5_parse : plainName mX5_parse.1.cls = true := by decide +kernel
abbrev mX5_partOf : Md := (yX5_partOf, cX5_partOf, 1, (some .int))
theorem pn_X5_partOf : plainName mX5_partOf.1.cls = true := by decide +kernel
abbrev mX5_partSign : Md := (yX5_partSign, cX5_partSign, 5, (some .char))
theorem pn_X5_partSign : plainName mX5_partSign.1.cls = true := by decide +kernel
abbrev mX5_parts : Md := (yX5_parts, cX5_parts, 5, (some .int))
theorem pn_X5_parts : plainName mX5_parts.1.cls = true := by decide +kernel
abbrev mX5_port : Md := (yX5_port, cX5_port, 2, (some .int))
theorem pn_X5_port : plainName mX5_port.1.cls = true := by decide +kernel
abbrev mX5_put : Md := (yX5_put, cX5_put, 7, none)
theorem pn_X5_put : plainName mX5_put.1.cls = true := by decide +kernel
abbrev mX5_refusals : Md := (yX5_refusals, cX5_refusals, 1, (some .int))
theorem pn_X5_refusals : plainName mX5_refusals.1.cls = true := by decide +kernel
abbrev mX5_refusedAt : Md := (yX5_refusedAt, cX5_refusedAt, 1, (some .int))
theorem pn_X5_refusedAt : plainName mX5_refusedAt.1.cls = true := by decide +kernel
abbrev mX5_rest : Md := (yX5_rest, cX5_rest, 2, (some .int))
theorem pn_X5_rest : plainName mX5_rest.1.cls = true := by decide +kernel
abbrev mX5_sign : Md := (yX5_sign, cX5_sign, 2, none)
theorem pn_X5_sign : plainName mX5_sign.1.cls = true := by decide +kernel
abbrev mX5_signAt : Md := (yX5_signAt, cX5_signAt, 2, (some .char))
theorem pn_X5_signAt : plainName mX5_signAt.1.cls = true := by decide +kernel
abbrev mX5_size : Md := (yX5_size, cX5_size, 3, (some .int))
theorem pn_X5_size : plainName mX5_size.1.cls = true := by decide +kernel
abbrev mX5_slashes : Md := (yX5_slashes, cX5_slashes, 2, (some .int))
theorem pn_X5_slashes : plainName mX5_slashes.1.cls = true := by decide +kernel
abbrev mX5_taken : Md := (yX5_taken, cX5_taken, 3, (some .int))
theorem pn_X5_taken : plainName mX5_taken.1.cls = true := by decide +kernel
abbrev mX5_thrown : Md := (yX5_thrown, cX5_thrown, 1, (some .int))
theorem pn_X5_thrown : plainName mX5_thrown.1.cls = true := by decide +kernel
abbrev mX5_together : Md := (yX5_together, cX5_together, 4, (some .boolean))
theorem pn_X5_together : plainName mX5_together.1.cls = true := by decide +kernel
abbrev mX5_type : Md := (yX5_type, cX5_type, 2, (some .int))
theorem pn_X5_type : plainName mX5_type.1.cls = true := by decide +kernel
abbrev mX5_wipe : Md := (yX5_wipe, cX5_wipe, 2, (some .int))
theorem pn_X5_wipe : plainName mX5_wipe.1.cls = true := by decide +kernel
abbrev mX5_word : Md := (yX5_word, cX5_word, 6, (some .int))
theorem pn_X5_word : plainName mX5_word.1.cls = true := by decide +kernel
theorem kJ0_335 : Cond.methodLink RJ0 335 yJ0_coder_7d493 ∈ uw := uw_at 252 (by decide +kernel)
theorem kJ0_492 : Cond.methodLink RJ0 492 yJ0_isLatin1_aae02 ∈ uw := uw_at 242 (by decide +kernel)
theorem kJ0_495 : Cond.methodLink RJ0 495 yJ1_charAt_3b067 ∈ uw := uw_at 453 (by decide +kernel)
theorem kJ0_498 : Cond.methodLink RJ0 498 yJ2_charAt_3b067 ∈ uw := uw_at 462 (by decide +kernel)
theorem kJ0_505 : Cond.methodLink RJ0 505 yJ0_length_8abf5 ∈ uw := uw_at 248 (by decide +kernel)
theorem kJ0_633 : Cond.methodLink RJ0 633 yJ0_indexOf_7cf53 ∈ uw := uw_at 238 (by decide +kernel)
theorem kJ0_637 : Cond.methodLink RJ0 637 yJ1_indexOf_4cfef ∈ uw := uw_at 256 (by decide +kernel)
theorem kJ0_640 : Cond.methodLink RJ0 640 yJ2_indexOf_4cfef ∈ uw := uw_at 271 (by decide +kernel)
theorem kJ0_1059 : Cond.methodLink RJ0 1059 yJ3_checkIndex_8e157 ∈ uw := uw_at 459 (by decide +kernel)
theorem kJ1_9 : Cond.methodLink RJ1 9 yJ0_checkIndex_df160 ∈ uw := uw_at 456 (by decide +kernel)
theorem kJ1_38 : Cond.methodLink RJ1 38 Lib.Math.min.name ∈ uw := uw_at 265 (by decide +kernel)
theorem kJ1_88 : Cond.methodLink RJ1 88 yJ1_canEncode_9a6ad ∈ uw := uw_at 259 (by decide +kernel)
theorem kJ1_92 : Cond.methodLink RJ1 92 Lib.Math.max.name ∈ uw := uw_at 262 (by decide +kernel)
theorem kJ1_95 : Cond.methodLink RJ1 95 yJ1_indexOfChar_4cfef ∈ uw := uw_at 268 (by decide +kernel)
theorem kL_7 : Cond.methodLink RL 7 yX4_type ∈ uw := uw_at 512 (by decide +kernel)
theorem kL_17 : Cond.methodLink RL 17 yX4_escape ∈ uw := uw_at 611 (by decide +kernel)
theorem kL_21 : Cond.methodLink RL 21 yX4_word ∈ uw := uw_at 623 (by decide +kernel)
theorem kL_27 : Cond.methodLink RL 27 yX4_drop ∈ uw := uw_at 679 (by decide +kernel)
theorem kL_33 : Cond.methodLink RL 33 yX4_signAt ∈ uw := uw_at 702 (by decide +kernel)
theorem kL_37 : Cond.methodLink RL 37 yX4_parse ∈ uw := uw_at 710 (by decide +kernel)
theorem kL_40 : Cond.methodLink RL 40 yX4_refusedAt ∈ uw := uw_at 735 (by decide +kernel)
theorem kL_43 : Cond.methodLink RL 43 yX4_isTold ∈ uw := uw_at 747 (by decide +kernel)
theorem kL_47 : Cond.methodLink RL 47 yX4_isThere ∈ uw := uw_at 754 (by decide +kernel)
theorem kL_51 : Cond.methodLink RL 51 yX4_isAbsolute ∈ uw := uw_at 761 (by decide +kernel)
theorem kL_54 : Cond.methodLink RL 54 yX4_isOpaque ∈ uw := uw_at 776 (by decide +kernel)
theorem kL_57 : Cond.methodLink RL 57 yX4_port ∈ uw := uw_at 783 (by decide +kernel)
theorem kL_60 : Cond.methodLink RL 60 yX4_size ∈ uw := uw_at 790 (by decide +kernel)
theorem kL_64 : Cond.methodLink RL 64 yX4_partSign ∈ uw := uw_at 803 (by decide +kernel)
theorem kL_68 : Cond.methodLink RL 68 yX4_begin ∈ uw := uw_at 816 (by decide +kernel)
theorem kL_71 : Cond.methodLink RL 71 yX4_append ∈ uw := uw_at 824 (by decide +kernel)
theorem kL_74 : Cond.methodLink RL 74 yX4_copy ∈ uw := uw_at 832 (by decide +kernel)
theorem kL_78 : Cond.methodLink RL 78 yX4_alike ∈ uw := uw_at 839 (by decide +kernel)
theorem kL_81 : Cond.methodLink RL 81 yX4_together ∈ uw := uw_at 846 (by decide +kernel)
theorem kL_84 : Cond.methodLink RL 84 yX4_mix ∈ uw := uw_at 855 (by decide +kernel)
theorem kL_90 : Cond.methodLink RL 90 yX4_init ∈ uw := uw_at 63 (by decide +kernel)
theorem kL_93 : Cond.methodLink RL 93 yX5_init ∈ uw := uw_at 879 (by decide +kernel)
theorem kL_99 : Cond.methodLink RL 99 yX5_type ∈ uw := uw_at 933 (by decide +kernel)
theorem kL_100 : Cond.methodLink RL 100 yX5_thrown ∈ uw := uw_at 929 (by decide +kernel)
theorem kL_106 : Cond.methodLink RL 106 yX5_escape ∈ uw := uw_at 951 (by decide +kernel)
theorem kL_110 : Cond.methodLink RL 110 yX5_word ∈ uw := uw_at 958 (by decide +kernel)
theorem kL_114 : Cond.methodLink RL 114 yX5_drop ∈ uw := uw_at 965 (by decide +kernel)
theorem kL_115 : Cond.methodLink RL 115 yX4_wipe ∈ uw := uw_at 158 (by decide +kernel)
theorem kL_118 : Cond.methodLink RL 118 yX5_wipe ∈ uw := uw_at 969 (by decide +kernel)
theorem kL_119 : Cond.methodLink RL 119 yX4_length ∈ uw := uw_at 170 (by decide +kernel)
theorem kL_122 : Cond.methodLink RL 122 yX5_length ∈ uw := uw_at 973 (by decide +kernel)
theorem kL_125 : Cond.methodLink RL 125 yX5_signAt ∈ uw := uw_at 977 (by decide +kernel)
theorem kL_128 : Cond.methodLink RL 128 yX5_parse ∈ uw := uw_at 981 (by decide +kernel)
theorem kL_129 : Cond.methodLink RL 129 yX4_refusals ∈ uw := uw_at 174 (by decide +kernel)
theorem kL_132 : Cond.methodLink RL 132 yX5_refusals ∈ uw := uw_at 1049 (by decide +kernel)
theorem kL_135 : Cond.methodLink RL 135 yX5_refusedAt ∈ uw := uw_at 1053 (by decide +kernel)
theorem kL_138 : Cond.methodLink RL 138 yX5_isTold ∈ uw := uw_at 1057 (by decide +kernel)
theorem kL_141 : Cond.methodLink RL 141 yX5_isThere ∈ uw := uw_at 1061 (by decide +kernel)
theorem kL_144 : Cond.methodLink RL 144 yX5_isAbsolute ∈ uw := uw_at 1065 (by decide +kernel)
theorem kL_147 : Cond.methodLink RL 147 yX5_isOpaque ∈ uw := uw_at 1077 (by decide +kernel)
theorem kL_150 : Cond.methodLink RL 150 yX5_port ∈ uw := uw_at 1081 (by decide +kernel)
theorem kL_154 : Cond.methodLink RL 154 yX5_size ∈ uw := uw_at 1085 (by decide +kernel)
theorem kL_158 : Cond.methodLink RL 158 yX5_partSign ∈ uw := uw_at 1097 (by decide +kernel)
theorem kL_161 : Cond.methodLink RL 161 yX5_begin ∈ uw := uw_at 1101 (by decide +kernel)
theorem kL_164 : Cond.methodLink RL 164 yX5_append ∈ uw := uw_at 1105 (by decide +kernel)
theorem kL_168 : Cond.methodLink RL 168 yX5_copy ∈ uw := uw_at 1113 (by decide +kernel)
theorem kL_171 : Cond.methodLink RL 171 yX5_alike ∈ uw := uw_at 1117 (by decide +kernel)
theorem kL_174 : Cond.methodLink RL 174 yX5_together ∈ uw := uw_at 1125 (by decide +kernel)
theorem kL_178 : Cond.methodLink RL 178 yX5_mix ∈ uw := uw_at 1137 (by decide +kernel)
theorem kL_179 : Cond.methodLink RL 179 yX4_isTrue ∈ uw := uw_at 178 (by decide +kernel)
theorem kL_182 : Cond.methodLink RL 182 yX5_isTrue ∈ uw := uw_at 1146 (by decide +kernel)
theorem kL_183 : Cond.methodLink RL 183 yX4_checksum ∈ uw := uw_at 495 (by decide +kernel)
theorem kL_187 : Cond.methodLink RL 187 yX5_checksum ∈ uw := uw_at 1150 (by decide +kernel)
theorem kX0_25 : Cond.methodLink RX0 25 yX0_forget ∈ uw := uw_at 97 (by decide +kernel)
theorem kX0_36 : Cond.methodLink RX0 36 yX0_beginOf ∈ uw := uw_at 194 (by decide +kernel)
theorem kX0_40 : Cond.methodLink RX0 40 yX0_has ∈ uw := uw_at 424 (by decide +kernel)
theorem kX0_44 : Cond.methodLink RX0 44 yX0_endOf ∈ uw := uw_at 198 (by decide +kernel)
theorem kX0_47 : Cond.methodLink RX0 47 yX3_at ∈ uw := uw_at 812 (by decide +kernel)
theorem kX0_51 : Cond.methodLink RX0 51 yX3_putRange ∈ uw := uw_at 202 (by decide +kernel)
theorem kX0_55 : Cond.methodLink RX0 55 yX3_count ∈ uw := uw_at 474 (by decide +kernel)
theorem kX0_59 : Cond.methodLink RX0 59 yX3_isRange ∈ uw := uw_at 425 (by decide +kernel)
theorem kX0_63 : Cond.methodLink RX0 63 yX2_isSlashed ∈ uw := uw_at 489 (by decide +kernel)
theorem kX0_69 : Cond.methodLink RX0 69 yX0_isPartAlike ∈ uw := uw_at 416 (by decide +kernel)
theorem kX0_73 : Cond.methodLink RX0 73 yX0_sizeOf ∈ uw := uw_at 420 (by decide +kernel)
theorem kX0_78 : Cond.methodLink RX0 78 yX3_takeOver ∈ uw := uw_at 731 (by decide +kernel)
theorem kX0_82 : Cond.methodLink RX0 82 yX0_mark ∈ uw := uw_at 101 (by decide +kernel)
theorem kX1_11 : Cond.methodLink RX1 11 yX0_init ∈ uw := uw_at 91 (by decide +kernel)
theorem kX1_18 : Cond.methodLink RX1 18 yX0_whole ∈ uw := uw_at 122 (by decide +kernel)
theorem kX1_30 : Cond.methodLink RX1 30 yX0_forget ∈ uw := uw_at 218 (by decide +kernel)
theorem kX1_33 : Cond.methodLink RX1 33 yX3_takeOver ∈ uw := uw_at 219 (by decide +kernel)
theorem kX1_39 : Cond.methodLink RX1 39 yX3_count ∈ uw := uw_at 223 (by decide +kernel)
theorem kX1_43 : Cond.methodLink RX1 43 yX0_mark ∈ uw := uw_at 224 (by decide +kernel)
theorem kX1_47 : Cond.methodLink RX1 47 yX2_schemeColon ∈ uw := uw_at 225 (by decide +kernel)
theorem kX1_53 : Cond.methodLink RX1 53 yX1_cutScheme ∈ uw := uw_at 321 (by decide +kernel)
theorem kX1_57 : Cond.methodLink RX1 57 yX3_at ∈ uw := uw_at 340 (by decide +kernel)
theorem kX1_61 : Cond.methodLink RX1 61 yX1_cutOpaque ∈ uw := uw_at 341 (by decide +kernel)
theorem kX1_65 : Cond.methodLink RX1 65 yX1_cutAuthority ∈ uw := uw_at 352 (by decide +kernel)
theorem kX1_68 : Cond.methodLink RX1 68 yX1_cutPathAndQuery ∈ uw := uw_at 360 (by decide +kernel)
theorem kX1_72 : Cond.methodLink RX1 72 yX1_cutFragment ∈ uw := uw_at 365 (by decide +kernel)
theorem kX1_75 : Cond.methodLink RX1 75 yX0_has ∈ uw := uw_at 369 (by decide +kernel)
theorem kX1_79 : Cond.methodLink RX1 79 yX0_beginOf ∈ uw := uw_at 373 (by decide +kernel)
theorem kX1_82 : Cond.methodLink RX1 82 yX0_endOf ∈ uw := uw_at 374 (by decide +kernel)
theorem kX1_85 : Cond.methodLink RX1 85 yX1_cutServer ∈ uw := uw_at 375 (by decide +kernel)
theorem kX1_89 : Cond.methodLink RX1 89 yX0_setHeld ∈ uw := uw_at 404 (by decide +kernel)
theorem kX1_93 : Cond.methodLink RX1 93 yX2_wrongInScheme ∈ uw := uw_at 325 (by decide +kernel)
theorem kX1_97 : Cond.methodLink RX1 97 yX1_refuse ∈ uw := uw_at 336 (by decide +kernel)
theorem kX1_102 : Cond.methodLink RX1 102 yX1_cutPart ∈ uw := uw_at 346 (by decide +kernel)
theorem kX1_106 : Cond.methodLink RX1 106 yX2_isSlashed ∈ uw := uw_at 356 (by decide +kernel)
theorem kX1_112 : Cond.methodLink RX1 112 yX3_next ∈ uw := uw_at 350 (by decide +kernel)
theorem kX1_122 : Cond.methodLink RX1 122 yX2_isName ∈ uw := uw_at 381 (by decide +kernel)
theorem kX1_126 : Cond.methodLink RX1 126 yX2_isFourNumbers ∈ uw := uw_at 387 (by decide +kernel)
theorem kX1_129 : Cond.methodLink RX1 129 yX2_isPort ∈ uw := uw_at 394 (by decide +kernel)
theorem kX1_133 : Cond.methodLink RX1 133 yX2_numberIn ∈ uw := uw_at 399 (by decide +kernel)
theorem kX1_137 : Cond.methodLink RX1 137 yX0_setPort ∈ uw := uw_at 400 (by decide +kernel)
theorem kX2_9 : Cond.methodLink RX2 9 yX3_at ∈ uw := uw_at 320 (by decide +kernel)
theorem kX2_17 : Cond.methodLink RX2 17 yX3_count ∈ uw := uw_at 229 (by decide +kernel)
theorem kX2_21 : Cond.methodLink RX2 21 yX3_next ∈ uw := uw_at 230 (by decide +kernel)
theorem kX2_25 : Cond.methodLink RX2 25 yX2_isLetter ∈ uw := uw_at 328 (by decide +kernel)
theorem kX2_31 : Cond.methodLink RX2 31 yX2_isDigit ∈ uw := uw_at 331 (by decide +kernel)
theorem kX2_36 : Cond.methodLink RX2 36 yJ0_indexOf_0f7a4 ∈ uw := uw_at 335 (by decide +kernel)
theorem kX2_42 : Cond.methodLink RX2 42 yX2_schemeColon ∈ uw := uw_at 722 (by decide +kernel)
theorem kX2_46 : Cond.methodLink RX2 46 yX2_isSlashed ∈ uw := uw_at 723 (by decide +kernel)
theorem kX2_54 : Cond.methodLink RX2 54 yX2_isLabel ∈ uw := uw_at 384 (by decide +kernel)
theorem kX2_58 : Cond.methodLink RX2 58 yX2_numberIn ∈ uw := uw_at 390 (by decide +kernel)
theorem kX3_19 : Cond.methodLink RX3 19 yJ0_length_8abf5 ∈ uw := uw_at 448 (by decide +kernel)
theorem kX3_25 : Cond.methodLink RX3 25 yJ0_charAt_5068e ∈ uw := uw_at 449 (by decide +kernel)
theorem kX3_29 : Cond.methodLink RX3 29 yX3_put ∈ uw := uw_at 210 (by decide +kernel)
theorem kX3_33 : Cond.methodLink RX3 33 yX3_at ∈ uw := uw_at 206 (by decide +kernel)
theorem kX3_36 : Cond.methodLink RX3 36 yJ0_indexOf_0f7a4 ∈ uw := uw_at 234 (by decide +kernel)
theorem kX4_32 : Cond.methodLink RX4 32 yX0_init ∈ uw := uw_at 138 (by decide +kernel)
theorem kX4_35 : Cond.methodLink RX4 35 yJ0_indexOf_0f7a4 ∈ uw := uw_at 517 (by decide +kernel)
theorem kX4_48 : Cond.methodLink RX4 48 yX4_checkRoom ∈ uw := uw_at 587 (by decide +kernel)
theorem kX4_52 : Cond.methodLink RX4 52 yX3_put ∈ uw := uw_at 607 (by decide +kernel)
theorem kX4_56 : Cond.methodLink RX4 56 yX3_count ∈ uw := uw_at 162 (by decide +kernel)
theorem kX4_66 : Cond.methodLink RX4 66 yJ0_charAt_5068e ∈ uw := uw_at 618 (by decide +kernel)
theorem kX4_75 : Cond.methodLink RX4 75 yX4_wordAt ∈ uw := uw_at 643 (by decide +kernel)
theorem kX4_79 : Cond.methodLink RX4 79 yJ0_length_8abf5 ∈ uw := uw_at 674 (by decide +kernel)
theorem kX4_82 : Cond.methodLink RX4 82 yX3_putAll ∈ uw := uw_at 444 (by decide +kernel)
theorem kX4_90 : Cond.methodLink RX4 90 yX3_at ∈ uw := uw_at 501 (by decide +kernel)
theorem kX4_93 : Cond.methodLink RX4 93 yX3_shorten ∈ uw := uw_at 166 (by decide +kernel)
theorem kX4_98 : Cond.methodLink RX4 98 yX4_slotAt ∈ uw := uw_at 714 (by decide +kernel)
theorem kX4_102 : Cond.methodLink RX4 102 yX2_isAuthorityBad ∈ uw := uw_at 719 (by decide +kernel)
theorem kX4_113 : Cond.methodLink RX4 113 yX1_cut ∈ uw := uw_at 214 (by decide +kernel)
theorem kX4_117 : Cond.methodLink RX4 117 yX1_address ∈ uw := uw_at 408 (by decide +kernel)
theorem kX4_121 : Cond.methodLink RX4 121 yX0_takeOver ∈ uw := uw_at 727 (by decide +kernel)
theorem kX4_132 : Cond.methodLink RX4 132 yX4_checkRefused ∈ uw := uw_at 739 (by decide +kernel)
theorem kX4_135 : Cond.methodLink RX4 135 yX0_isHeld ∈ uw := uw_at 182 (by decide +kernel)
theorem kX4_139 : Cond.methodLink RX4 139 yX4_addressAt ∈ uw := uw_at 765 (by decide +kernel)
theorem kX4_142 : Cond.methodLink RX4 142 yX0_has ∈ uw := uw_at 443 (by decide +kernel)
theorem kX4_146 : Cond.methodLink RX4 146 yX0_portNumber ∈ uw := uw_at 429 (by decide +kernel)
theorem kX4_149 : Cond.methodLink RX4 149 yX4_partOf ∈ uw := uw_at 794 (by decide +kernel)
theorem kX4_153 : Cond.methodLink RX4 153 yX4_checkHeld ∈ uw := uw_at 769 (by decide +kernel)
theorem kX4_156 : Cond.methodLink RX4 156 yX0_sizeOf ∈ uw := uw_at 799 (by decide +kernel)
theorem kX4_161 : Cond.methodLink RX4 161 yX0_signOf ∈ uw := uw_at 808 (by decide +kernel)
theorem kX4_165 : Cond.methodLink RX4 165 yX0_beginOf ∈ uw := uw_at 820 (by decide +kernel)
theorem kX4_170 : Cond.methodLink RX4 170 yX0_putPart ∈ uw := uw_at 190 (by decide +kernel)
theorem kX4_174 : Cond.methodLink RX4 174 yX0_partsAlike ∈ uw := uw_at 412 (by decide +kernel)
theorem kX4_178 : Cond.methodLink RX4 178 yX4_weave ∈ uw := uw_at 479 (by decide +kernel)
theorem kX4_182 : Cond.methodLink RX4 182 yX3_takeOver ∈ uw := uw_at 850 (by decide +kernel)
theorem kX4_185 : Cond.methodLink RX4 185 yX0_isWhole ∈ uw := uw_at 470 (by decide +kernel)
theorem kX4_201 : Cond.methodLink RX4 201 yX4_isSameAnew ∈ uw := uw_at 186 (by decide +kernel)
theorem kX4_205 : Cond.methodLink RX4 205 yX4_isThreeParts ∈ uw := uw_at 433 (by decide +kernel)
theorem kX4_208 : Cond.methodLink RX4 208 yX4_isWovenAgain ∈ uw := uw_at 475 (by decide +kernel)
theorem kX4_215 : Cond.methodLink RX4 215 yX0_sumBehind ∈ uw := uw_at 502 (by decide +kernel)
theorem kX4_231 : Cond.methodLink RX4 231 yX4_weavePart ∈ uw := uw_at 439 (by decide +kernel)
theorem kX4_241 : Cond.methodLink RX4 241 yX0_isSkippingSlashes ∈ uw := uw_at 485 (by decide +kernel)
theorem kX4_244 : Cond.methodLink RX4 244 yX0_isWholeWithoutSlashes ∈ uw := uw_at 490 (by decide +kernel)
theorem kX5_41 : Cond.methodLink RX5 41 yX5_in ∈ uw := uw_at 940 (by decide +kernel)
theorem kX5_47 : Cond.methodLink RX5 47 yJ0_indexOf_0f7a4 ∈ uw := uw_at 998 (by decide +kernel)
theorem kX5_59 : Cond.methodLink RX5 59 yX5_canType ∈ uw := uw_at 937 (by decide +kernel)
theorem kX5_63 : Cond.methodLink RX5 63 yX5_fails ∈ uw := uw_at 943 (by decide +kernel)
theorem kX5_66 : Cond.methodLink RX5 66 yX5_put ∈ uw := uw_at 947 (by decide +kernel)
theorem kX5_70 : Cond.methodLink RX5 70 yX5_digit ∈ uw := uw_at 955 (by decide +kernel)
theorem kX5_76 : Cond.methodLink RX5 76 yJ0_indexOf_7cf53 ∈ uw := uw_at 963 (by decide +kernel)
theorem kX5_79 : Cond.methodLink RX5 79 yJ0_charAt_5068e ∈ uw := uw_at 964 (by decide +kernel)
theorem kX5_85 : Cond.methodLink RX5 85 yX5_next ∈ uw := uw_at 994 (by decide +kernel)
theorem kX5_89 : Cond.methodLink RX5 89 yX5_isBad ∈ uw := uw_at 1008 (by decide +kernel)
theorem kX5_92 : Cond.methodLink RX5 92 yX5_rest ∈ uw := uw_at 989 (by decide +kernel)
theorem kX5_96 : Cond.methodLink RX5 96 yX5_isAt ∈ uw := uw_at 999 (by decide +kernel)
theorem kX5_100 : Cond.methodLink RX5 100 yX5_partOf ∈ uw := uw_at 1028 (by decide +kernel)
theorem kX5_107 : Cond.methodLink RX5 107 yX5_isLetter ∈ uw := uw_at 1018 (by decide +kernel)
theorem kX5_110 : Cond.methodLink RX5 110 yX5_isDigit ∈ uw := uw_at 1021 (by decide +kernel)
theorem kX5_113 : Cond.methodLink RX5 113 yX5_cut ∈ uw := uw_at 1024 (by decide +kernel)
theorem kX5_119 : Cond.methodLink RX5 119 yX5_bad ∈ uw := uw_at 1004 (by decide +kernel)
theorem kX5_122 : Cond.methodLink RX5 122 yX5_slashes ∈ uw := uw_at 985 (by decide +kernel)
theorem kX5_127 : Cond.methodLink RX5 127 yX5_authority ∈ uw := uw_at 1033 (by decide +kernel)
theorem kX5_133 : Cond.methodLink RX5 133 yX5_isNumbers ∈ uw := uw_at 1037 (by decide +kernel)
theorem kX5_136 : Cond.methodLink RX5 136 yX5_isLabels ∈ uw := uw_at 1041 (by decide +kernel)
theorem kX5_145 : Cond.methodLink RX5 145 yX5_isSlot ∈ uw := uw_at 1011 (by decide +kernel)
theorem kX5_148 : Cond.methodLink RX5 148 yX5_parts ∈ uw := uw_at 1014 (by decide +kernel)
theorem kX5_157 : Cond.methodLink RX5 157 yX5_noSlot ∈ uw := uw_at 1069 (by decide +kernel)
theorem kX5_160 : Cond.methodLink RX5 160 yX5_has ∈ uw := uw_at 1073 (by decide +kernel)
theorem kX5_164 : Cond.methodLink RX5 164 yX5_noPart ∈ uw := uw_at 1089 (by decide +kernel)
theorem kX5_168 : Cond.methodLink RX5 168 yX5_many ∈ uw := uw_at 1093 (by decide +kernel)
theorem kX5_171 : Cond.methodLink RX5 171 yX5_add ∈ uw := uw_at 1109 (by decide +kernel)
theorem kX5_175 : Cond.methodLink RX5 175 yX5_isAlike ∈ uw := uw_at 1121 (by decide +kernel)
theorem kX5_178 : Cond.methodLink RX5 178 yX5_sign ∈ uw := uw_at 1133 (by decide +kernel)
theorem kX5_182 : Cond.methodLink RX5 182 yX5_all ∈ uw := uw_at 1129 (by decide +kernel)
theorem kX5_188 : Cond.methodLink RX5 188 yX5_taken ∈ uw := uw_at 1142 (by decide +kernel)
theorem vJ0_charAt_5068e : Vok mJ0_charAt_5068e 1 := ⟨uw_at 450 (by decide +kernel), uw_at 451 (by decide +kernel), uw_at 46 (by decide +kernel), uw_at 452 (by decide +kernel), by decide +kernel, by decide +kernel, by decide +kernel⟩
theorem vJ0_checkIndex_df160 : Sok mJ0_checkIndex_df160 2 := ⟨uw_at 457 (by decide +kernel), uw_at 46 (by decide +kernel), uw_at 458 (by decide +kernel), by decide +kernel, by decide +kernel, by decide +kernel⟩
theorem vJ0_coder_7d493 : Vok mJ0_coder_7d493 0 := ⟨uw_at 253 (by decide +kernel), uw_at 254 (by decide +kernel), uw_at 46 (by decide +kernel), uw_at 255 (by decide +kernel), by decide +kernel, by decide +kernel, by decide +kernel⟩
theorem vJ0_indexOf_0f7a4 : Vok mJ0_indexOf_0f7a4 1 := ⟨uw_at 235 (by decide +kernel), uw_at 236 (by decide +kernel), uw_at 46 (by decide +kernel), uw_at 237 (by decide +kernel), by decide +kernel, by decide +kernel, by decide +kernel⟩
theorem vJ0_indexOf_7cf53 : Vok mJ0_indexOf_7cf53 2 := ⟨uw_at 239 (by decide +kernel), uw_at 240 (by decide +kernel), uw_at 46 (by decide +kernel), uw_at 241 (by decide +kernel), by decide +kernel, by decide +kernel, by decide +kernel⟩
theorem vJ0_isLatin1_aae02 : Vok mJ0_isLatin1_aae02 0 := ⟨uw_at 243 (by decide +kernel), uw_at 244 (by decide +kernel), uw_at 46 (by decide +kernel), uw_at 245 (by decide +kernel), by decide +kernel, by decide +kernel, by decide +kernel⟩
theorem vJ0_length_8abf5 : Vok mJ0_length_8abf5 0 := ⟨uw_at 249 (by decide +kernel), uw_at 250 (by decide +kernel), uw_at 46 (by decide +kernel), uw_at 251 (by decide +kernel), by decide +kernel, by decide +kernel, by decide +kernel⟩
theorem vJ1_canEncode_9a6ad : Sok mJ1_canEncode_9a6ad 1 := ⟨uw_at 260 (by decide +kernel), uw_at 47 (by decide +kernel), uw_at 261 (by decide +kernel), by decide +kernel, by decide +kernel, by decide +kernel⟩
theorem vJ1_charAt_3b067 : Sok mJ1_charAt_3b067 2 := ⟨uw_at 454 (by decide +kernel), uw_at 47 (by decide +kernel), uw_at 455 (by decide +kernel), by decide +kernel, by decide +kernel, by decide +kernel⟩
theorem vJ1_indexOfChar_4cfef : Sok mJ1_indexOfChar_4cfef 4 := ⟨uw_at 269 (by decide +kernel), uw_at 47 (by decide +kernel), uw_at 270 (by decide +kernel), by decide +kernel, by decide +kernel, by decide +kernel⟩
theorem vJ1_indexOf_4cfef : Sok mJ1_indexOf_4cfef 4 := ⟨uw_at 257 (by decide +kernel), uw_at 47 (by decide +kernel), uw_at 258 (by decide +kernel), by decide +kernel, by decide +kernel, by decide +kernel⟩
theorem vJ3_checkIndex_8e157 : Sok mJ3_checkIndex_8e157 3 := ⟨uw_at 460 (by decide +kernel), uw_at 50 (by decide +kernel), uw_at 461 (by decide +kernel), by decide +kernel, by decide +kernel, by decide +kernel⟩
theorem vX0_beginOf : Vok mX0_beginOf 1 := ⟨uw_at 195 (by decide +kernel), uw_at 196 (by decide +kernel), uw_at 44 (by decide +kernel), uw_at 197 (by decide +kernel), by decide +kernel, by decide +kernel, by decide +kernel⟩
theorem vX0_endOf : Vok mX0_endOf 1 := ⟨uw_at 199 (by decide +kernel), uw_at 200 (by decide +kernel), uw_at 44 (by decide +kernel), uw_at 201 (by decide +kernel), by decide +kernel, by decide +kernel, by decide +kernel⟩
theorem vX0_forget : Vok mX0_forget 0 := ⟨uw_at 98 (by decide +kernel), uw_at 99 (by decide +kernel), uw_at 44 (by decide +kernel), uw_at 100 (by decide +kernel), by decide +kernel, by decide +kernel, by decide +kernel⟩
theorem vX0_has : Vok mX0_has 1 := ⟨uw_at 370 (by decide +kernel), uw_at 371 (by decide +kernel), uw_at 44 (by decide +kernel), uw_at 372 (by decide +kernel), by decide +kernel, by decide +kernel, by decide +kernel⟩
theorem vX0_isHeld : Vok mX0_isHeld 0 := ⟨uw_at 183 (by decide +kernel), uw_at 184 (by decide +kernel), uw_at 44 (by decide +kernel), uw_at 185 (by decide +kernel), by decide +kernel, by decide +kernel, by decide +kernel⟩
theorem vX0_isPartAlike : Vok mX0_isPartAlike 2 := ⟨uw_at 418 (by decide +kernel), uw_at 9 (by decide +kernel), uw_at 44 (by decide +kernel), uw_at 419 (by decide +kernel), by decide +kernel, by decide +kernel, by decide +kernel⟩
theorem vX0_isSkippingSlashes : Vok mX0_isSkippingSlashes 0 := ⟨uw_at 486 (by decide +kernel), uw_at 487 (by decide +kernel), uw_at 44 (by decide +kernel), uw_at 488 (by decide +kernel), by decide +kernel, by decide +kernel, by decide +kernel⟩
theorem vX0_isWhole : Vok mX0_isWhole 1 := ⟨uw_at 471 (by decide +kernel), uw_at 472 (by decide +kernel), uw_at 44 (by decide +kernel), uw_at 473 (by decide +kernel), by decide +kernel, by decide +kernel, by decide +kernel⟩
theorem vX0_isWholeWithoutSlashes : Vok mX0_isWholeWithoutSlashes 1 := ⟨uw_at 491 (by decide +kernel), uw_at 492 (by decide +kernel), uw_at 44 (by decide +kernel), uw_at 493 (by decide +kernel), by decide +kernel, by decide +kernel, by decide +kernel⟩
theorem vX0_mark : Vok mX0_mark 3 := ⟨uw_at 102 (by decide +kernel), uw_at 103 (by decide +kernel), uw_at 44 (by decide +kernel), uw_at 104 (by decide +kernel), by decide +kernel, by decide +kernel, by decide +kernel⟩
theorem vX0_partsAlike : Vok mX0_partsAlike 1 := ⟨uw_at 413 (by decide +kernel), uw_at 414 (by decide +kernel), uw_at 44 (by decide +kernel), uw_at 415 (by decide +kernel), by decide +kernel, by decide +kernel, by decide +kernel⟩
theorem vX0_portNumber : Vok mX0_portNumber 0 := ⟨uw_at 430 (by decide +kernel), uw_at 431 (by decide +kernel), uw_at 44 (by decide +kernel), uw_at 432 (by decide +kernel), by decide +kernel, by decide +kernel, by decide +kernel⟩
theorem vX0_putPart : Vok mX0_putPart 2 := ⟨uw_at 191 (by decide +kernel), uw_at 192 (by decide +kernel), uw_at 44 (by decide +kernel), uw_at 193 (by decide +kernel), by decide +kernel, by decide +kernel, by decide +kernel⟩
theorem vX0_setHeld : Vok mX0_setHeld 1 := ⟨uw_at 405 (by decide +kernel), uw_at 406 (by decide +kernel), uw_at 44 (by decide +kernel), uw_at 407 (by decide +kernel), by decide +kernel, by decide +kernel, by decide +kernel⟩
theorem vX0_setPort : Vok mX0_setPort 1 := ⟨uw_at 401 (by decide +kernel), uw_at 402 (by decide +kernel), uw_at 44 (by decide +kernel), uw_at 403 (by decide +kernel), by decide +kernel, by decide +kernel, by decide +kernel⟩
theorem vX0_signOf : Vok mX0_signOf 2 := ⟨uw_at 809 (by decide +kernel), uw_at 810 (by decide +kernel), uw_at 44 (by decide +kernel), uw_at 811 (by decide +kernel), by decide +kernel, by decide +kernel, by decide +kernel⟩
theorem vX0_sizeOf : Vok mX0_sizeOf 1 := ⟨uw_at 421 (by decide +kernel), uw_at 422 (by decide +kernel), uw_at 44 (by decide +kernel), uw_at 423 (by decide +kernel), by decide +kernel, by decide +kernel, by decide +kernel⟩
theorem vX0_sumBehind : Vok mX0_sumBehind 1 := ⟨uw_at 503 (by decide +kernel), uw_at 504 (by decide +kernel), uw_at 44 (by decide +kernel), uw_at 505 (by decide +kernel), by decide +kernel, by decide +kernel, by decide +kernel⟩
theorem vX0_takeOver : Vok mX0_takeOver 1 := ⟨uw_at 728 (by decide +kernel), uw_at 729 (by decide +kernel), uw_at 44 (by decide +kernel), uw_at 730 (by decide +kernel), by decide +kernel, by decide +kernel, by decide +kernel⟩
theorem vX0_whole : Vok mX0_whole 0 := ⟨uw_at 123 (by decide +kernel), uw_at 124 (by decide +kernel), uw_at 44 (by decide +kernel), uw_at 125 (by decide +kernel), by decide +kernel, by decide +kernel, by decide +kernel⟩
theorem vX1_address : Vok mX1_address 0 := ⟨uw_at 409 (by decide +kernel), uw_at 410 (by decide +kernel), uw_at 43 (by decide +kernel), uw_at 411 (by decide +kernel), by decide +kernel, by decide +kernel, by decide +kernel⟩
theorem vX1_cut : Vok mX1_cut 1 := ⟨uw_at 215 (by decide +kernel), uw_at 216 (by decide +kernel), uw_at 43 (by decide +kernel), uw_at 217 (by decide +kernel), by decide +kernel, by decide +kernel, by decide +kernel⟩
theorem vX1_cutAuthority : Vok mX1_cutAuthority 1 := ⟨uw_at 354 (by decide +kernel), uw_at 5 (by decide +kernel), uw_at 43 (by decide +kernel), uw_at 355 (by decide +kernel), by decide +kernel, by decide +kernel, by decide +kernel⟩
theorem vX1_cutFragment : Vok mX1_cutFragment 1 := ⟨uw_at 367 (by decide +kernel), uw_at 7 (by decide +kernel), uw_at 43 (by decide +kernel), uw_at 368 (by decide +kernel), by decide +kernel, by decide +kernel, by decide +kernel⟩
theorem vX1_cutOpaque : Vok mX1_cutOpaque 1 := ⟨uw_at 343 (by decide +kernel), uw_at 3 (by decide +kernel), uw_at 43 (by decide +kernel), uw_at 344 (by decide +kernel), by decide +kernel, by decide +kernel, by decide +kernel⟩
theorem vX1_cutPart : Vok mX1_cutPart 3 := ⟨uw_at 348 (by decide +kernel), uw_at 4 (by decide +kernel), uw_at 43 (by decide +kernel), uw_at 349 (by decide +kernel), by decide +kernel, by decide +kernel, by decide +kernel⟩
theorem vX1_cutPathAndQuery : Vok mX1_cutPathAndQuery 2 := ⟨uw_at 362 (by decide +kernel), uw_at 6 (by decide +kernel), uw_at 43 (by decide +kernel), uw_at 363 (by decide +kernel), by decide +kernel, by decide +kernel, by decide +kernel⟩
theorem vX1_cutScheme : Vok mX1_cutScheme 1 := ⟨uw_at 323 (by decide +kernel), uw_at 1 (by decide +kernel), uw_at 43 (by decide +kernel), uw_at 324 (by decide +kernel), by decide +kernel, by decide +kernel, by decide +kernel⟩
theorem vX1_cutServer : Vok mX1_cutServer 2 := ⟨uw_at 377 (by decide +kernel), uw_at 8 (by decide +kernel), uw_at 43 (by decide +kernel), uw_at 378 (by decide +kernel), by decide +kernel, by decide +kernel, by decide +kernel⟩
theorem vX1_refuse : Vok mX1_refuse 1 := ⟨uw_at 338 (by decide +kernel), uw_at 2 (by decide +kernel), uw_at 43 (by decide +kernel), uw_at 339 (by decide +kernel), by decide +kernel, by decide +kernel, by decide +kernel⟩
theorem vX2_isAuthorityBad : Sok mX2_isAuthorityBad 1 := ⟨uw_at 720 (by decide +kernel), uw_at 59 (by decide +kernel), uw_at 721 (by decide +kernel), by decide +kernel, by decide +kernel, by decide +kernel⟩
theorem vX2_isDigit : Sok mX2_isDigit 1 := ⟨uw_at 332 (by decide +kernel), uw_at 59 (by decide +kernel), uw_at 333 (by decide +kernel), by decide +kernel, by decide +kernel, by decide +kernel⟩
theorem vX2_isFourNumbers : Sok mX2_isFourNumbers 3 := ⟨uw_at 388 (by decide +kernel), uw_at 59 (by decide +kernel), uw_at 389 (by decide +kernel), by decide +kernel, by decide +kernel, by decide +kernel⟩
theorem vX2_isLabel : Sok mX2_isLabel 3 := ⟨uw_at 385 (by decide +kernel), uw_at 59 (by decide +kernel), uw_at 386 (by decide +kernel), by decide +kernel, by decide +kernel, by decide +kernel⟩
theorem vX2_isLetter : Sok mX2_isLetter 1 := ⟨uw_at 329 (by decide +kernel), uw_at 59 (by decide +kernel), uw_at 330 (by decide +kernel), by decide +kernel, by decide +kernel, by decide +kernel⟩
theorem vX2_isName : Sok mX2_isName 3 := ⟨uw_at 382 (by decide +kernel), uw_at 59 (by decide +kernel), uw_at 383 (by decide +kernel), by decide +kernel, by decide +kernel, by decide +kernel⟩
theorem vX2_isPort : Sok mX2_isPort 3 := ⟨uw_at 395 (by decide +kernel), uw_at 59 (by decide +kernel), uw_at 396 (by decide +kernel), by decide +kernel, by decide +kernel, by decide +kernel⟩
theorem vX2_isSlashed : Sok mX2_isSlashed 2 := ⟨uw_at 357 (by decide +kernel), uw_at 59 (by decide +kernel), uw_at 358 (by decide +kernel), by decide +kernel, by decide +kernel, by decide +kernel⟩
theorem vX2_numberIn : Sok mX2_numberIn 4 := ⟨uw_at 391 (by decide +kernel), uw_at 59 (by decide +kernel), uw_at 392 (by decide +kernel), by decide +kernel, by decide +kernel, by decide +kernel⟩
theorem vX2_schemeColon : Sok mX2_schemeColon 1 := ⟨uw_at 226 (by decide +kernel), uw_at 59 (by decide +kernel), uw_at 227 (by decide +kernel), by decide +kernel, by decide +kernel, by decide +kernel⟩
theorem vX2_wrongInScheme : Sok mX2_wrongInScheme 2 := ⟨uw_at 326 (by decide +kernel), uw_at 59 (by decide +kernel), uw_at 327 (by decide +kernel), by decide +kernel, by decide +kernel, by decide +kernel⟩
theorem vX3_at : Vok mX3_at 1 := ⟨uw_at 207 (by decide +kernel), uw_at 208 (by decide +kernel), uw_at 42 (by decide +kernel), uw_at 209 (by decide +kernel), by decide +kernel, by decide +kernel, by decide +kernel⟩
theorem vX3_count : Vok mX3_count 0 := ⟨uw_at 163 (by decide +kernel), uw_at 164 (by decide +kernel), uw_at 42 (by decide +kernel), uw_at 165 (by decide +kernel), by decide +kernel, by decide +kernel, by decide +kernel⟩
theorem vX3_isRange : Vok mX3_isRange 4 := ⟨uw_at 426 (by decide +kernel), uw_at 427 (by decide +kernel), uw_at 42 (by decide +kernel), uw_at 428 (by decide +kernel), by decide +kernel, by decide +kernel, by decide +kernel⟩
theorem vX3_next : Vok mX3_next 3 := ⟨uw_at 231 (by decide +kernel), uw_at 232 (by decide +kernel), uw_at 42 (by decide +kernel), uw_at 233 (by decide +kernel), by decide +kernel, by decide +kernel, by decide +kernel⟩
theorem vX3_put : Vok mX3_put 1 := ⟨uw_at 211 (by decide +kernel), uw_at 212 (by decide +kernel), uw_at 42 (by decide +kernel), uw_at 213 (by decide +kernel), by decide +kernel, by decide +kernel, by decide +kernel⟩
theorem vX3_putAll : Vok mX3_putAll 1 := ⟨uw_at 445 (by decide +kernel), uw_at 446 (by decide +kernel), uw_at 42 (by decide +kernel), uw_at 447 (by decide +kernel), by decide +kernel, by decide +kernel, by decide +kernel⟩
theorem vX3_putRange : Vok mX3_putRange 3 := ⟨uw_at 203 (by decide +kernel), uw_at 204 (by decide +kernel), uw_at 42 (by decide +kernel), uw_at 205 (by decide +kernel), by decide +kernel, by decide +kernel, by decide +kernel⟩
theorem vX3_shorten : Vok mX3_shorten 1 := ⟨uw_at 167 (by decide +kernel), uw_at 168 (by decide +kernel), uw_at 42 (by decide +kernel), uw_at 169 (by decide +kernel), by decide +kernel, by decide +kernel, by decide +kernel⟩
theorem vX3_takeOver : Vok mX3_takeOver 1 := ⟨uw_at 220 (by decide +kernel), uw_at 221 (by decide +kernel), uw_at 42 (by decide +kernel), uw_at 222 (by decide +kernel), by decide +kernel, by decide +kernel, by decide +kernel⟩
theorem vX4_addressAt : Vok mX4_addressAt 1 := ⟨uw_at 767 (by decide +kernel), uw_at 18 (by decide +kernel), uw_at 41 (by decide +kernel), uw_at 768 (by decide +kernel), by decide +kernel, by decide +kernel, by decide +kernel⟩
theorem vX4_alike : Vok mX4_alike 2 := ⟨uw_at 840 (by decide +kernel), uw_at 841 (by decide +kernel), uw_at 41 (by decide +kernel), uw_at 842 (by decide +kernel), by decide +kernel, by decide +kernel, by decide +kernel⟩
theorem vX4_append : Vok mX4_append 2 := ⟨uw_at 825 (by decide +kernel), uw_at 826 (by decide +kernel), uw_at 41 (by decide +kernel), uw_at 827 (by decide +kernel), by decide +kernel, by decide +kernel, by decide +kernel⟩
theorem vX4_begin : Vok mX4_begin 2 := ⟨uw_at 817 (by decide +kernel), uw_at 818 (by decide +kernel), uw_at 41 (by decide +kernel), uw_at 819 (by decide +kernel), by decide +kernel, by decide +kernel, by decide +kernel⟩
theorem vX4_checkHeld : Sok mX4_checkHeld 1 := ⟨uw_at 770 (by decide +kernel), uw_at 41 (by decide +kernel), uw_at 771 (by decide +kernel), by decide +kernel, by decide +kernel, by decide +kernel⟩
theorem vX4_checkRefused : Vok mX4_checkRefused 0 := ⟨uw_at 741 (by decide +kernel), uw_at 17 (by decide +kernel), uw_at 41 (by decide +kernel), uw_at 742 (by decide +kernel), by decide +kernel, by decide +kernel, by decide +kernel⟩
theorem vX4_checkRoom : Vok mX4_checkRoom 1 := ⟨uw_at 589 (by decide +kernel), uw_at 15 (by decide +kernel), uw_at 41 (by decide +kernel), uw_at 590 (by decide +kernel), by decide +kernel, by decide +kernel, by decide +kernel⟩
theorem vX4_checksum : Vok mX4_checksum 0 := ⟨uw_at 496 (by decide +kernel), uw_at 497 (by decide +kernel), uw_at 41 (by decide +kernel), uw_at 498 (by decide +kernel), by decide +kernel, by decide +kernel, by decide +kernel⟩
theorem vX4_copy : Vok mX4_copy 2 := ⟨uw_at 833 (by decide +kernel), uw_at 834 (by decide +kernel), uw_at 41 (by decide +kernel), uw_at 835 (by decide +kernel), by decide +kernel, by decide +kernel, by decide +kernel⟩
theorem vX4_drop : Vok mX4_drop 0 := ⟨uw_at 680 (by decide +kernel), uw_at 681 (by decide +kernel), uw_at 41 (by decide +kernel), uw_at 682 (by decide +kernel), by decide +kernel, by decide +kernel, by decide +kernel⟩
theorem vX4_escape : Vok mX4_escape 2 := ⟨uw_at 612 (by decide +kernel), uw_at 613 (by decide +kernel), uw_at 41 (by decide +kernel), uw_at 614 (by decide +kernel), by decide +kernel, by decide +kernel, by decide +kernel⟩
theorem vX4_isAbsolute : Vok mX4_isAbsolute 1 := ⟨uw_at 762 (by decide +kernel), uw_at 763 (by decide +kernel), uw_at 41 (by decide +kernel), uw_at 764 (by decide +kernel), by decide +kernel, by decide +kernel, by decide +kernel⟩
theorem vX4_isOpaque : Vok mX4_isOpaque 1 := ⟨uw_at 777 (by decide +kernel), uw_at 778 (by decide +kernel), uw_at 41 (by decide +kernel), uw_at 779 (by decide +kernel), by decide +kernel, by decide +kernel, by decide +kernel⟩
theorem vX4_isSameAnew : Vok mX4_isSameAnew 1 := ⟨uw_at 188 (by decide +kernel), uw_at 0 (by decide +kernel), uw_at 41 (by decide +kernel), uw_at 189 (by decide +kernel), by decide +kernel, by decide +kernel, by decide +kernel⟩
theorem vX4_isThere : Vok mX4_isThere 1 := ⟨uw_at 755 (by decide +kernel), uw_at 756 (by decide +kernel), uw_at 41 (by decide +kernel), uw_at 757 (by decide +kernel), by decide +kernel, by decide +kernel, by decide +kernel⟩
theorem vX4_isThreeParts : Vok mX4_isThreeParts 1 := ⟨uw_at 435 (by decide +kernel), uw_at 10 (by decide +kernel), uw_at 41 (by decide +kernel), uw_at 436 (by decide +kernel), by decide +kernel, by decide +kernel, by decide +kernel⟩
theorem vX4_isTold : Vok mX4_isTold 0 := ⟨uw_at 748 (by decide +kernel), uw_at 749 (by decide +kernel), uw_at 41 (by decide +kernel), uw_at 750 (by decide +kernel), by decide +kernel, by decide +kernel, by decide +kernel⟩
theorem vX4_isTrue : Vok mX4_isTrue 0 := ⟨uw_at 179 (by decide +kernel), uw_at 180 (by decide +kernel), uw_at 41 (by decide +kernel), uw_at 181 (by decide +kernel), by decide +kernel, by decide +kernel, by decide +kernel⟩
theorem vX4_isWovenAgain : Vok mX4_isWovenAgain 1 := ⟨uw_at 477 (by decide +kernel), uw_at 12 (by decide +kernel), uw_at 41 (by decide +kernel), uw_at 478 (by decide +kernel), by decide +kernel, by decide +kernel, by decide +kernel⟩
theorem vX4_length : Vok mX4_length 0 := ⟨uw_at 171 (by decide +kernel), uw_at 172 (by decide +kernel), uw_at 41 (by decide +kernel), uw_at 173 (by decide +kernel), by decide +kernel, by decide +kernel, by decide +kernel⟩
theorem vX4_mix : Vok mX4_mix 3 := ⟨uw_at 856 (by decide +kernel), uw_at 857 (by decide +kernel), uw_at 41 (by decide +kernel), uw_at 858 (by decide +kernel), by decide +kernel, by decide +kernel, by decide +kernel⟩
theorem vX4_parse : Vok mX4_parse 1 := ⟨uw_at 711 (by decide +kernel), uw_at 712 (by decide +kernel), uw_at 41 (by decide +kernel), uw_at 713 (by decide +kernel), by decide +kernel, by decide +kernel, by decide +kernel⟩
theorem vX4_partOf : Sok mX4_partOf 1 := ⟨uw_at 795 (by decide +kernel), uw_at 41 (by decide +kernel), uw_at 796 (by decide +kernel), by decide +kernel, by decide +kernel, by decide +kernel⟩
theorem vX4_partSign : Vok mX4_partSign 3 := ⟨uw_at 804 (by decide +kernel), uw_at 805 (by decide +kernel), uw_at 41 (by decide +kernel), uw_at 806 (by decide +kernel), by decide +kernel, by decide +kernel, by decide +kernel⟩
theorem vX4_port : Vok mX4_port 1 := ⟨uw_at 784 (by decide +kernel), uw_at 785 (by decide +kernel), uw_at 41 (by decide +kernel), uw_at 786 (by decide +kernel), by decide +kernel, by decide +kernel, by decide +kernel⟩
theorem vX4_refusals : Vok mX4_refusals 0 := ⟨uw_at 175 (by decide +kernel), uw_at 176 (by decide +kernel), uw_at 41 (by decide +kernel), uw_at 177 (by decide +kernel), by decide +kernel, by decide +kernel, by decide +kernel⟩
theorem vX4_refusedAt : Vok mX4_refusedAt 0 := ⟨uw_at 736 (by decide +kernel), uw_at 737 (by decide +kernel), uw_at 41 (by decide +kernel), uw_at 738 (by decide +kernel), by decide +kernel, by decide +kernel, by decide +kernel⟩
theorem vX4_signAt : Vok mX4_signAt 1 := ⟨uw_at 703 (by decide +kernel), uw_at 704 (by decide +kernel), uw_at 41 (by decide +kernel), uw_at 705 (by decide +kernel), by decide +kernel, by decide +kernel, by decide +kernel⟩
theorem vX4_size : Vok mX4_size 2 := ⟨uw_at 791 (by decide +kernel), uw_at 792 (by decide +kernel), uw_at 41 (by decide +kernel), uw_at 793 (by decide +kernel), by decide +kernel, by decide +kernel, by decide +kernel⟩
theorem vX4_slotAt : Vok mX4_slotAt 1 := ⟨uw_at 716 (by decide +kernel), uw_at 16 (by decide +kernel), uw_at 41 (by decide +kernel), uw_at 717 (by decide +kernel), by decide +kernel, by decide +kernel, by decide +kernel⟩
theorem vX4_together : Vok mX4_together 1 := ⟨uw_at 847 (by decide +kernel), uw_at 848 (by decide +kernel), uw_at 41 (by decide +kernel), uw_at 849 (by decide +kernel), by decide +kernel, by decide +kernel, by decide +kernel⟩
theorem vX4_type : Vok mX4_type 1 := ⟨uw_at 513 (by decide +kernel), uw_at 514 (by decide +kernel), uw_at 41 (by decide +kernel), uw_at 515 (by decide +kernel), by decide +kernel, by decide +kernel, by decide +kernel⟩
theorem vX4_weave : Vok mX4_weave 3 := ⟨uw_at 481 (by decide +kernel), uw_at 13 (by decide +kernel), uw_at 41 (by decide +kernel), uw_at 482 (by decide +kernel), by decide +kernel, by decide +kernel, by decide +kernel⟩
theorem vX4_weavePart : Vok mX4_weavePart 4 := ⟨uw_at 441 (by decide +kernel), uw_at 11 (by decide +kernel), uw_at 41 (by decide +kernel), uw_at 442 (by decide +kernel), by decide +kernel, by decide +kernel, by decide +kernel⟩
theorem vX4_wipe : Vok mX4_wipe 0 := ⟨uw_at 159 (by decide +kernel), uw_at 160 (by decide +kernel), uw_at 41 (by decide +kernel), uw_at 161 (by decide +kernel), by decide +kernel, by decide +kernel, by decide +kernel⟩
theorem vX4_word : Vok mX4_word 1 := ⟨uw_at 624 (by decide +kernel), uw_at 625 (by decide +kernel), uw_at 41 (by decide +kernel), uw_at 626 (by decide +kernel), by decide +kernel, by decide +kernel, by decide +kernel⟩
theorem vX4_wordAt : Sok mX4_wordAt 1 := ⟨uw_at 644 (by decide +kernel), uw_at 41 (by decide +kernel), uw_at 645 (by decide +kernel), by decide +kernel, by decide +kernel, by decide +kernel⟩
theorem vX5_add : Vok mX5_add 2 := ⟨uw_at 1111 (by decide +kernel), uw_at 35 (by decide +kernel), uw_at 45 (by decide +kernel), uw_at 1112 (by decide +kernel), by decide +kernel, by decide +kernel, by decide +kernel⟩
theorem vX5_alike : Vok mX5_alike 2 := ⟨uw_at 1118 (by decide +kernel), uw_at 1119 (by decide +kernel), uw_at 45 (by decide +kernel), uw_at 1120 (by decide +kernel), by decide +kernel, by decide +kernel, by decide +kernel⟩
theorem vX5_all : Vok mX5_all 3 := ⟨uw_at 1131 (by decide +kernel), uw_at 37 (by decide +kernel), uw_at 45 (by decide +kernel), uw_at 1132 (by decide +kernel), by decide +kernel, by decide +kernel, by decide +kernel⟩
theorem vX5_append : Vok mX5_append 2 := ⟨uw_at 1106 (by decide +kernel), uw_at 1107 (by decide +kernel), uw_at 45 (by decide +kernel), uw_at 1108 (by decide +kernel), by decide +kernel, by decide +kernel, by decide +kernel⟩
theorem vX5_authority : Vok mX5_authority 2 := ⟨uw_at 1035 (by decide +kernel), uw_at 28 (by decide +kernel), uw_at 45 (by decide +kernel), uw_at 1036 (by decide +kernel), by decide +kernel, by decide +kernel, by decide +kernel⟩
theorem vX5_bad : Vok mX5_bad 2 := ⟨uw_at 1006 (by decide +kernel), uw_at 25 (by decide +kernel), uw_at 45 (by decide +kernel), uw_at 1007 (by decide +kernel), by decide +kernel, by decide +kernel, by decide +kernel⟩
theorem vX5_begin : Vok mX5_begin 2 := ⟨uw_at 1102 (by decide +kernel), uw_at 1103 (by decide +kernel), uw_at 45 (by decide +kernel), uw_at 1104 (by decide +kernel), by decide +kernel, by decide +kernel, by decide +kernel⟩
theorem vX5_canType : Sok mX5_canType 1 := ⟨uw_at 938 (by decide +kernel), uw_at 45 (by decide +kernel), uw_at 939 (by decide +kernel), by decide +kernel, by decide +kernel, by decide +kernel⟩
theorem vX5_checksum : Vok mX5_checksum 0 := ⟨uw_at 1151 (by decide +kernel), uw_at 1152 (by decide +kernel), uw_at 45 (by decide +kernel), uw_at 1153 (by decide +kernel), by decide +kernel, by decide +kernel, by decide +kernel⟩
theorem vX5_copy : Vok mX5_copy 2 := ⟨uw_at 1114 (by decide +kernel), uw_at 1115 (by decide +kernel), uw_at 45 (by decide +kernel), uw_at 1116 (by decide +kernel), by decide +kernel, by decide +kernel, by decide +kernel⟩
theorem vX5_cut : Vok mX5_cut 3 := ⟨uw_at 1026 (by decide +kernel), uw_at 27 (by decide +kernel), uw_at 45 (by decide +kernel), uw_at 1027 (by decide +kernel), by decide +kernel, by decide +kernel, by decide +kernel⟩
theorem vX5_digit : Sok mX5_digit 2 := ⟨uw_at 956 (by decide +kernel), uw_at 45 (by decide +kernel), uw_at 957 (by decide +kernel), by decide +kernel, by decide +kernel, by decide +kernel⟩
theorem vX5_drop : Vok mX5_drop 0 := ⟨uw_at 966 (by decide +kernel), uw_at 967 (by decide +kernel), uw_at 45 (by decide +kernel), uw_at 968 (by decide +kernel), by decide +kernel, by decide +kernel, by decide +kernel⟩
theorem vX5_escape : Vok mX5_escape 2 := ⟨uw_at 952 (by decide +kernel), uw_at 953 (by decide +kernel), uw_at 45 (by decide +kernel), uw_at 954 (by decide +kernel), by decide +kernel, by decide +kernel, by decide +kernel⟩
theorem vX5_fails : Vok mX5_fails 1 := ⟨uw_at 945 (by decide +kernel), uw_at 19 (by decide +kernel), uw_at 45 (by decide +kernel), uw_at 946 (by decide +kernel), by decide +kernel, by decide +kernel, by decide +kernel⟩
theorem vX5_has : Vok mX5_has 2 := ⟨uw_at 1075 (by decide +kernel), uw_at 32 (by decide +kernel), uw_at 45 (by decide +kernel), uw_at 1076 (by decide +kernel), by decide +kernel, by decide +kernel, by decide +kernel⟩
theorem vX5_in : Sok mX5_in 3 := ⟨uw_at 941 (by decide +kernel), uw_at 45 (by decide +kernel), uw_at 942 (by decide +kernel), by decide +kernel, by decide +kernel, by decide +kernel⟩
theorem vX5_isAbsolute : Vok mX5_isAbsolute 1 := ⟨uw_at 1066 (by decide +kernel), uw_at 1067 (by decide +kernel), uw_at 45 (by decide +kernel), uw_at 1068 (by decide +kernel), by decide +kernel, by decide +kernel, by decide +kernel⟩
theorem vX5_isAlike : Vok mX5_isAlike 3 := ⟨uw_at 1123 (by decide +kernel), uw_at 36 (by decide +kernel), uw_at 45 (by decide +kernel), uw_at 1124 (by decide +kernel), by decide +kernel, by decide +kernel, by decide +kernel⟩
theorem vX5_isAt : Vok mX5_isAt 2 := ⟨uw_at 1001 (by decide +kernel), uw_at 24 (by decide +kernel), uw_at 45 (by decide +kernel), uw_at 1002 (by decide +kernel), by decide +kernel, by decide +kernel, by decide +kernel⟩
theorem vX5_isBad : Sok mX5_isBad 1 := ⟨uw_at 1009 (by decide +kernel), uw_at 45 (by decide +kernel), uw_at 1010 (by decide +kernel), by decide +kernel, by decide +kernel, by decide +kernel⟩
theorem vX5_isDigit : Sok mX5_isDigit 1 := ⟨uw_at 1022 (by decide +kernel), uw_at 45 (by decide +kernel), uw_at 1023 (by decide +kernel), by decide +kernel, by decide +kernel, by decide +kernel⟩
theorem vX5_isLabels : Vok mX5_isLabels 2 := ⟨uw_at 1043 (by decide +kernel), uw_at 30 (by decide +kernel), uw_at 45 (by decide +kernel), uw_at 1044 (by decide +kernel), by decide +kernel, by decide +kernel, by decide +kernel⟩
theorem vX5_isLetter : Sok mX5_isLetter 1 := ⟨uw_at 1019 (by decide +kernel), uw_at 45 (by decide +kernel), uw_at 1020 (by decide +kernel), by decide +kernel, by decide +kernel, by decide +kernel⟩
theorem vX5_isNumbers : Vok mX5_isNumbers 2 := ⟨uw_at 1039 (by decide +kernel), uw_at 29 (by decide +kernel), uw_at 45 (by decide +kernel), uw_at 1040 (by decide +kernel), by decide +kernel, by decide +kernel, by decide +kernel⟩
theorem vX5_isOpaque : Vok mX5_isOpaque 1 := ⟨uw_at 1078 (by decide +kernel), uw_at 1079 (by decide +kernel), uw_at 45 (by decide +kernel), uw_at 1080 (by decide +kernel), by decide +kernel, by decide +kernel, by decide +kernel⟩
theorem vX5_isSlot : Sok mX5_isSlot 1 := ⟨uw_at 1012 (by decide +kernel), uw_at 45 (by decide +kernel), uw_at 1013 (by decide +kernel), by decide +kernel, by decide +kernel, by decide +kernel⟩
theorem vX5_isThere : Vok mX5_isThere 1 := ⟨uw_at 1062 (by decide +kernel), uw_at 1063 (by decide +kernel), uw_at 45 (by decide +kernel), uw_at 1064 (by decide +kernel), by decide +kernel, by decide +kernel, by decide +kernel⟩
theorem vX5_isTold : Vok mX5_isTold 0 := ⟨uw_at 1058 (by decide +kernel), uw_at 1059 (by decide +kernel), uw_at 45 (by decide +kernel), uw_at 1060 (by decide +kernel), by decide +kernel, by decide +kernel, by decide +kernel⟩
theorem vX5_isTrue : Vok mX5_isTrue 0 := ⟨uw_at 1147 (by decide +kernel), uw_at 1148 (by decide +kernel), uw_at 45 (by decide +kernel), uw_at 1149 (by decide +kernel), by decide +kernel, by decide +kernel, by decide +kernel⟩
theorem vX5_length : Vok mX5_length 0 := ⟨uw_at 974 (by decide +kernel), uw_at 975 (by decide +kernel), uw_at 45 (by decide +kernel), uw_at 976 (by decide +kernel), by decide +kernel, by decide +kernel, by decide +kernel⟩
theorem vX5_many : Vok mX5_many 2 := ⟨uw_at 1095 (by decide +kernel), uw_at 34 (by decide +kernel), uw_at 45 (by decide +kernel), uw_at 1096 (by decide +kernel), by decide +kernel, by decide +kernel, by decide +kernel⟩
theorem vX5_mix : Vok mX5_mix 3 := ⟨uw_at 1138 (by decide +kernel), uw_at 1139 (by decide +kernel), uw_at 45 (by decide +kernel), uw_at 1140 (by decide +kernel), by decide +kernel, by decide +kernel, by decide +kernel⟩
theorem vX5_next : Vok mX5_next 2 := ⟨uw_at 996 (by decide +kernel), uw_at 23 (by decide +kernel), uw_at 45 (by decide +kernel), uw_at 997 (by decide +kernel), by decide +kernel, by decide +kernel, by decide +kernel⟩
theorem vX5_noPart : Vok mX5_noPart 2 := ⟨uw_at 1091 (by decide +kernel), uw_at 33 (by decide +kernel), uw_at 45 (by decide +kernel), uw_at 1092 (by decide +kernel), by decide +kernel, by decide +kernel, by decide +kernel⟩
theorem vX5_noSlot : Vok mX5_noSlot 1 := ⟨uw_at 1071 (by decide +kernel), uw_at 31 (by decide +kernel), uw_at 45 (by decide +kernel), uw_at 1072 (by decide +kernel), by decide +kernel, by decide +kernel, by decide +kernel⟩
theorem vX5_parse : Vok mX5_parse 1 := ⟨uw_at 982 (by decide +kernel), uw_at 983 (by decide +kernel), uw_at 45 (by decide +kernel), uw_at 984 (by decide +kernel), by decide +kernel, by decide +kernel, by decide +kernel⟩
theorem vX5_partOf : Sok mX5_partOf 1 := ⟨uw_at 1029 (by decide +kernel), uw_at 45 (by decide +kernel), uw_at 1030 (by decide +kernel), by decide +kernel, by decide +kernel, by decide +kernel⟩
theorem vX5_partSign : Vok mX5_partSign 3 := ⟨uw_at 1098 (by decide +kernel), uw_at 1099 (by decide +kernel), uw_at 45 (by decide +kernel), uw_at 1100 (by decide +kernel), by decide +kernel, by decide +kernel, by decide +kernel⟩
theorem vX5_parts : Vok mX5_parts 0 := ⟨uw_at 1016 (by decide +kernel), uw_at 26 (by decide +kernel), uw_at 45 (by decide +kernel), uw_at 1017 (by decide +kernel), by decide +kernel, by decide +kernel, by decide +kernel⟩
theorem vX5_port : Vok mX5_port 1 := ⟨uw_at 1082 (by decide +kernel), uw_at 1083 (by decide +kernel), uw_at 45 (by decide +kernel), uw_at 1084 (by decide +kernel), by decide +kernel, by decide +kernel, by decide +kernel⟩
theorem vX5_put : Vok mX5_put 3 := ⟨uw_at 949 (by decide +kernel), uw_at 20 (by decide +kernel), uw_at 45 (by decide +kernel), uw_at 950 (by decide +kernel), by decide +kernel, by decide +kernel, by decide +kernel⟩
theorem vX5_refusals : Vok mX5_refusals 0 := ⟨uw_at 1050 (by decide +kernel), uw_at 1051 (by decide +kernel), uw_at 45 (by decide +kernel), uw_at 1052 (by decide +kernel), by decide +kernel, by decide +kernel, by decide +kernel⟩
theorem vX5_refusedAt : Vok mX5_refusedAt 0 := ⟨uw_at 1054 (by decide +kernel), uw_at 1055 (by decide +kernel), uw_at 45 (by decide +kernel), uw_at 1056 (by decide +kernel), by decide +kernel, by decide +kernel, by decide +kernel⟩
theorem vX5_rest : Vok mX5_rest 0 := ⟨uw_at 991 (by decide +kernel), uw_at 22 (by decide +kernel), uw_at 45 (by decide +kernel), uw_at 992 (by decide +kernel), by decide +kernel, by decide +kernel, by decide +kernel⟩
theorem vX5_sign : Vok mX5_sign 1 := ⟨uw_at 1135 (by decide +kernel), uw_at 38 (by decide +kernel), uw_at 45 (by decide +kernel), uw_at 1136 (by decide +kernel), by decide +kernel, by decide +kernel, by decide +kernel⟩
theorem vX5_signAt : Vok mX5_signAt 1 := ⟨uw_at 978 (by decide +kernel), uw_at 979 (by decide +kernel), uw_at 45 (by decide +kernel), uw_at 980 (by decide +kernel), by decide +kernel, by decide +kernel, by decide +kernel⟩
theorem vX5_size : Vok mX5_size 2 := ⟨uw_at 1086 (by decide +kernel), uw_at 1087 (by decide +kernel), uw_at 45 (by decide +kernel), uw_at 1088 (by decide +kernel), by decide +kernel, by decide +kernel, by decide +kernel⟩
theorem vX5_slashes : Vok mX5_slashes 0 := ⟨uw_at 987 (by decide +kernel), uw_at 21 (by decide +kernel), uw_at 45 (by decide +kernel), uw_at 988 (by decide +kernel), by decide +kernel, by decide +kernel, by decide +kernel⟩
theorem vX5_taken : Vok mX5_taken 2 := ⟨uw_at 1144 (by decide +kernel), uw_at 39 (by decide +kernel), uw_at 45 (by decide +kernel), uw_at 1145 (by decide +kernel), by decide +kernel, by decide +kernel, by decide +kernel⟩
theorem vX5_thrown : Vok mX5_thrown 0 := ⟨uw_at 930 (by decide +kernel), uw_at 931 (by decide +kernel), uw_at 45 (by decide +kernel), uw_at 932 (by decide +kernel), by decide +kernel, by decide +kernel, by decide +kernel⟩
theorem vX5_together : Vok mX5_together 1 := ⟨uw_at 1126 (by decide +kernel), uw_at 1127 (by decide +kernel), uw_at 45 (by decide +kernel), uw_at 1128 (by decide +kernel), by decide +kernel, by decide +kernel, by decide +kernel⟩
theorem vX5_type : Vok mX5_type 1 := ⟨uw_at 934 (by decide +kernel), uw_at 935 (by decide +kernel), uw_at 45 (by decide +kernel), uw_at 936 (by decide +kernel), by decide +kernel, by decide +kernel, by decide +kernel⟩
theorem vX5_wipe : Vok mX5_wipe 0 := ⟨uw_at 970 (by decide +kernel), uw_at 971 (by decide +kernel), uw_at 45 (by decide +kernel), uw_at 972 (by decide +kernel), by decide +kernel, by decide +kernel, by decide +kernel⟩
theorem vX5_word : Vok mX5_word 1 := ⟨uw_at 959 (by decide +kernel), uw_at 960 (by decide +kernel), uw_at 45 (by decide +kernel), uw_at 961 (by decide +kernel), by decide +kernel, by decide +kernel, by decide +kernel⟩
theorem fJ0_9 : Cond.fieldLink RJ0 9 "java/lang/String" "value" "[B" ∈ uw := uw_at 1171 (by decide +kernel)
theorem fJ0_15 : Cond.fieldLink RJ0 15 "java/lang/String" "coder" "B" ∈ uw := uw_at 1170 (by decide +kernel)
theorem fJ0_38 : Cond.fieldLink RJ0 38 "java/lang/String" "COMPACT_STRINGS" "Z" ∈ uw := uw_at 246 (by decide +kernel)
theorem fJ0_1053 : Cond.fieldLink RJ0 1053 "jdk/internal/util/Preconditions" "SIOOBE_FORMATTER" "Ljava/util/function/BiFunction;" ∈ uw := uw_at 289 (by decide +kernel)
theorem fX0_12 : Cond.fieldLink RX0 12 "Linkloom$Address" "whole" "LLinkloom$Text;" ∈ uw := uw_at 105 (by decide +kernel)
theorem fX0_18 : Cond.fieldLink RX0 18 "Linkloom$Address" "begins" "[I" ∈ uw := uw_at 106 (by decide +kernel)
theorem fX0_22 : Cond.fieldLink RX0 22 "Linkloom$Address" "ends" "[I" ∈ uw := uw_at 107 (by decide +kernel)
theorem fX0_28 : Cond.fieldLink RX0 28 "Linkloom$Address" "isHeld" "Z" ∈ uw := uw_at 109 (by decide +kernel)
theorem fX0_32 : Cond.fieldLink RX0 32 "Linkloom$Address" "portNumber" "I" ∈ uw := uw_at 108 (by decide +kernel)
theorem fX1_12 : Cond.fieldLink RX1 12 "Linkloom$Cutter" "address" "LLinkloom$Address;" ∈ uw := uw_at 126 (by decide +kernel)
theorem fX1_22 : Cond.fieldLink RX1 22 "Linkloom$Cutter" "text" "LLinkloom$Text;" ∈ uw := uw_at 127 (by decide +kernel)
theorem fX1_26 : Cond.fieldLink RX1 26 "Linkloom$Cutter" "refused" "I" ∈ uw := uw_at 128 (by decide +kernel)
theorem fX3_9 : Cond.fieldLink RX3 9 "Linkloom$Text" "signs" "[C" ∈ uw := uw_at 75 (by decide +kernel)
theorem fX3_15 : Cond.fieldLink RX3 15 "Linkloom$Text" "count" "I" ∈ uw := uw_at 76 (by decide +kernel)
theorem fX4_10 : Cond.fieldLink RX4 10 "Linkloom" "text" "LLinkloom$Text;" ∈ uw := uw_at 139 (by decide +kernel)
theorem fX4_16 : Cond.fieldLink RX4 16 "Linkloom" "loom" "LLinkloom$Text;" ∈ uw := uw_at 142 (by decide +kernel)
theorem fX4_22 : Cond.fieldLink RX4 22 "Linkloom" "cutter" "LLinkloom$Cutter;" ∈ uw := uw_at 141 (by decide +kernel)
theorem fX4_28 : Cond.fieldLink RX4 28 "Linkloom" "slots" "[LLinkloom$Address;" ∈ uw := uw_at 140 (by decide +kernel)
theorem fX4_125 : Cond.fieldLink RX4 125 "Linkloom" "refusalCount" "I" ∈ uw := uw_at 143 (by decide +kernel)
theorem fX4_129 : Cond.fieldLink RX4 129 "Linkloom" "refusedPlace" "I" ∈ uw := uw_at 144 (by decide +kernel)
theorem fX5_7 : Cond.fieldLink RX5 7 "LinkloomModel" "text" "[I" ∈ uw := uw_at 883 (by decide +kernel)
theorem fX5_13 : Cond.fieldLink RX5 13 "LinkloomModel" "pieces" "[I" ∈ uw := uw_at 885 (by decide +kernel)
theorem fX5_16 : Cond.fieldLink RX5 16 "LinkloomModel" "signs" "[I" ∈ uw := uw_at 887 (by decide +kernel)
theorem fX5_19 : Cond.fieldLink RX5 19 "LinkloomModel" "long_" "[I" ∈ uw := uw_at 888 (by decide +kernel)
theorem fX5_22 : Cond.fieldLink RX5 22 "LinkloomModel" "from" "[I" ∈ uw := uw_at 889 (by decide +kernel)
theorem fX5_25 : Cond.fieldLink RX5 25 "LinkloomModel" "to" "[I" ∈ uw := uw_at 890 (by decide +kernel)
theorem fX5_28 : Cond.fieldLink RX5 28 "LinkloomModel" "ports" "[I" ∈ uw := uw_at 891 (by decide +kernel)
theorem fX5_31 : Cond.fieldLink RX5 31 "LinkloomModel" "begin" "[I" ∈ uw := uw_at 892 (by decide +kernel)
theorem fX5_34 : Cond.fieldLink RX5 34 "LinkloomModel" "end" "[I" ∈ uw := uw_at 893 (by decide +kernel)
theorem fX5_37 : Cond.fieldLink RX5 37 "LinkloomModel" "code" "I" ∈ uw := uw_at 897 (by decide +kernel)
theorem fX5_53 : Cond.fieldLink RX5 53 "LinkloomModel" "size" "I" ∈ uw := uw_at 884 (by decide +kernel)
theorem fX5_56 : Cond.fieldLink RX5 56 "LinkloomModel" "pieceMany" "I" ∈ uw := uw_at 886 (by decide +kernel)
theorem fX5_104 : Cond.fieldLink RX5 104 "LinkloomModel" "port" "I" ∈ uw := uw_at 894 (by decide +kernel)
theorem fX5_151 : Cond.fieldLink RX5 151 "LinkloomModel" "refused" "I" ∈ uw := uw_at 895 (by decide +kernel)
theorem fX5_154 : Cond.fieldLink RX5 154 "LinkloomModel" "place" "I" ∈ uw := uw_at 896 (by decide +kernel)
theorem cX2_63 : Cond.constantLong RX2 63 (zL 10) ∈ uw := uw_at 393 (by decide +kernel)
theorem cX2_62 : Cond.constant RX2 62 (zI 2147483647) ∈ uw := uw_at 397 (by decide +kernel)
theorem cX1_132 : Cond.constant RX1 132 (zI 2147483647) ∈ uw := uw_at 398 (by decide +kernel)
theorem cX4_211 : Cond.constantLong RX4 211 (zL 7) ∈ uw := uw_at 499 (by decide +kernel)
theorem cX4_213 : Cond.constantLong RX4 213 (zL 31) ∈ uw := uw_at 500 (by decide +kernel)
theorem cX0_76 : Cond.constantLong RX0 76 (zL 31) ∈ uw := uw_at 506 (by decide +kernel)
theorem cX5_139 : Cond.constantLong RX5 139 (zL 10) ∈ uw := uw_at 1045 (by decide +kernel)
theorem cX5_141 : Cond.constantLong RX5 141 (zL 48) ∈ uw := uw_at 1046 (by decide +kernel)
theorem cX5_143 : Cond.constantLong RX5 143 (zL 2147483647) ∈ uw := uw_at 1047 (by decide +kernel)
theorem cX5_191 : Cond.constantLong RX5 191 (zL 7) ∈ uw := uw_at 1154 (by decide +kernel)
theorem cX5_193 : Cond.constantLong RX5 193 (zL 31) ∈ uw := uw_at 1155 (by decide +kernel)
